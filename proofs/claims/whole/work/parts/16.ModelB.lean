theorem ca_Model_119 {p : Program} {l : Launch} {e : Env} {R : Room} {s : State} {m : MethodId} {args : Array Value} {below : List Frame} {meth : Method} {c : Code} {H : Heap} {locs : List Loc} {cells slots : Nat} {Q : State → Prop} {cc : ByteArray} {nL pc : Nat} {ls : Array Slot} {rest : List Value} {w0 : Cond} {v : sm_V} {M : sm_M} {o : sm_O} {x0 : Int32} {r : Int32} {M' : sm_M} (hC : CallFix p m c cc nL s args (w0 :: sm_AW) R_Model) (hK : sm_K v s) (hG : sm_G v M o s H locs) (hM : sm_Ci l y_Model_makes w_Model_makes rm_Model_makes v [.ref (sm_a v 68), .int x0] M o r M') (hsz : ls.size = nL) (hR : rm_Model_makes.frames + 1 ≤ R.frames ∧ 8 + (10 + 11) + rm_Model_makes.locals ≤ R.locals) (hcs : cells + 0 ≤ R.cells ∧ slots + 0 ≤ R.slots) (hW : (rest.map fun v => v.category).sum ≤ 8) (hdg : decode cc pc = .ok (.invokevirtual 119, 3))
    (kk : ∀ (H : Heap) (locs : List Loc), sm_G v M' o s H locs → W p l e R s m args below meth c H locs cells slots Q (F0 m (pc + 3) ls (.int r :: rest))) : W p l e R s m args below meth c H locs cells slots Q (F0 m pc ls (.int x0 :: .ref (sm_a v 68) :: rest)) :=
  sm_calli (va_runV (C := R_Model) (As := [.int x0]) (rest := rest) hC hM (cwV 1 hC.2.2.2.2 (sm_good (sm_inV aw_849 aw_851 as_34 aw_7 aw_852)) rfl rfl rfl (by decide +kernel) hR) (sm_preV hK hG (by decide) rfl rfl) rfl rfl hsz rfl (lv_room hW) hdg hcs) hG kk
theorem ca_Model_115 {p : Program} {l : Launch} {e : Env} {R : Room} {s : State} {m : MethodId} {args : Array Value} {below : List Frame} {meth : Method} {c : Code} {H : Heap} {locs : List Loc} {cells slots : Nat} {Q : State → Prop} {cc : ByteArray} {nL pc : Nat} {ls : Array Slot} {rest : List Value} {w0 : Cond} {v : sm_V} {M : sm_M} {o : sm_O} {x0 : Int32} {r : Int32} (hC : CallFix p m c cc nL s args (w0 :: sm_AW) R_Model) (hK : sm_K v s) (hG : sm_G v M o s H locs) (hM : sm_Ri l y_Model_twice w_Model_twice rm_Model_twice v [.ref (sm_a v 68), .int x0] M o r) (hsz : ls.size = nL) (hR : rm_Model_twice.frames + 1 ≤ R.frames ∧ 8 + (8 + 11) + rm_Model_twice.locals ≤ R.locals) (hcs : cells + 0 ≤ R.cells ∧ slots + 0 ≤ R.slots) (hW : (rest.map fun v => v.category).sum ≤ 8) (hdg : decode cc pc = .ok (.invokevirtual 115, 3))
    (kk : W p l e R s m args below meth c H locs cells slots Q (F0 m (pc + 3) ls (.int r :: rest))) : W p l e R s m args below meth c H locs cells slots Q (F0 m pc ls (.int x0 :: .ref (sm_a v 68) :: rest)) :=
  sm_calli0 (va_runV (C := R_Model) (As := [.int x0]) (rest := rest) hC hM (cwV 1 hC.2.2.2.2 (sm_good (sm_inV aw_833 aw_835 as_30 aw_7 aw_836)) rfl rfl rfl (by decide +kernel) hR) (sm_preV hK hG (by decide) rfl rfl) rfl rfl hsz rfl (lv_room hW) hdg hcs) kk
abbrev w_Model_refusal : List Cond := Cond.code y_Model_refusal b_Model_refusal 5 (some .int) :: sm_AW
abbrev rm_Model_refusal : Room := { frames := 4, cells := 0, slots := 0, locals := 101 }
def j_Model_refusal_140 (M : sm_M) (w2 : Int32) (w1 : Int32) (z0 : Int32) (rec95 : sm_M → Int32 → Option (Int32 × sm_M)) : Option (Int32 × sm_M) :=
(if z0 = 0 then
(some (((-3000 : Int32) - ((100 : Int32) * (w2 / (16 : Int32)))) - (w2 - w2 / (16 : Int32) * (16 : Int32)), M))
else
rec95 M (w2 + (1 : Int32)))
def j_Model_refusal_135 (M : sm_M) (w2 : Int32) (w1 : Int32) (rec95 : sm_M → Int32 → Option (Int32 × sm_M)) : Option (Int32 × sm_M) :=
j_Model_refusal_140 M w2 w1 (1 : Int32) rec95
def j_Model_refusal_122 (M : sm_M) (w2 : Int32) (w1 : Int32) (z0 : Int32) (rec95 : sm_M → Int32 → Option (Int32 × sm_M)) : Option (Int32 × sm_M) :=
(if z0 = 0 then
j_Model_refusal_135 M w2 w1 rec95
else
sm_b2 (f_Model_makes M w2) fun r129_13 M129_14 =>
(if r129_13 = 0 then
j_Model_refusal_140 M129_14 w2 w1 (0 : Int32) rec95
else
j_Model_refusal_135 M129_14 w2 w1 rec95))
def g_Model_refusal_95 (w1 : Int32) (rec95 : sm_M → Int32 → Option (Int32 × sm_M)) (M : sm_M) (w2 : Int32) : Option (Int32 × sm_M) :=
(if (64 : Int32) ≤ w2 then
sm_b1 (f_Model_globalOne M w1) fun r172_5 =>
(if r172_5 = (-1 : Int32) then
(some ((-4000 : Int32) - w1, M))
else
(some ((0 : Int32), M)))
else
sm_gd (w2 / (16 : Int32)) 4 (
(if (M 76 (Int32.toNatClampNeg (w2 / (16 : Int32)))) ≤ (w2 - w2 / (16 : Int32) * (16 : Int32)) then
j_Model_refusal_122 M w2 w1 (0 : Int32) rec95
else
j_Model_refusal_122 M w2 w1 (1 : Int32) rec95)))
def g_Model_refusal_30 (M : sm_M) (w1 : Int32) (rec30 : Int32 → Option (Int32 × sm_M)) (w2 : Int32) : Option (Int32 × sm_M) :=
(if (64 : Int32) ≤ w2 then
sm_lp2 (g_Model_refusal_95 w1) 1100 M (0 : Int32)
else
sm_gd (w2 / (16 : Int32)) 4 (
(if (M 76 (Int32.toNatClampNeg (w2 / (16 : Int32)))) ≤ (w2 - w2 / (16 : Int32) * (16 : Int32)) then
rec30 (w2 + (1 : Int32))
else
sm_gd w2 64 (
sm_b1 (f_Model_needed M (w2 / (16 : Int32)) (M 80 (Int32.toNatClampNeg w2))) fun r63_20 =>
(if r63_20 = (-1 : Int32) then
(some (((-2000 : Int32) - ((100 : Int32) * (w2 / (16 : Int32)))) - (w2 - w2 / (16 : Int32) * (16 : Int32)), M))
else
rec30 (w2 + (1 : Int32)))))))
def g_Model_refusal_2 (M : sm_M) (w1 : Int32) (rec2 : Int32 → Option (Int32 × sm_M)) (w2 : Int32) : Option (Int32 × sm_M) :=
(if (16 : Int32) ≤ w2 then
sm_lp1 (g_Model_refusal_30 M w1) 1100 (0 : Int32)
else
sm_b1 (f_Model_twice M w2) fun r10_24 =>
(if r10_24 = 0 then
rec2 (w2 + (1 : Int32))
else
(some ((-1000 : Int32) - w2, M))))
def f_Model_refusal (M : sm_M) (a0 : Int32) : Option (Int32 × sm_M) :=
sm_lp1 (g_Model_refusal_2 M a0) 1100 (0 : Int32)
set_option maxHeartbeats 4000000 in
set_option maxRecDepth 100000 in
theorem jw_Model_refusal_140 {p : Program} {l : Launch} {e : Env} {s : State} {m : MethodId} {args : Array Value} {below : List Frame} {meth : Method} {c : Code} {v : sm_V} {o : sm_O} {r : Int32} {M' : sm_M} (hC : CallFix p m c b_Model_refusal 5 s args w_Model_refusal R_Model) (hr : meth.sig.returnType = some .int) (hlk : meth.locks = false) (hK : sm_K v s) (M : sm_M) (w2 : Int32) (w1 : Int32) (z0 : Int32) (rec95 : sm_M → Int32 → Option (Int32 × sm_M)) (hout95 : ∀ (M : sm_M) (w2 : Int32) (H : Heap) (locs : List Loc) (ls : Array Slot), sm_G v M o s H locs → lv_has ls 5 [(2, .int w2), (0, .ref (sm_a v 68)), (1, .int w1)] → rec95 M w2 = some (r, M') → W p l e rm_Model_refusal s m args below meth c H locs 0 0 (MQ below (sm_Qi v M' o r) args s 0 0 (sm_A v)) (F0 m 95 ls [])) {H : Heap} {locs : List Loc} {ls : Array Slot} (hG : sm_G v M o s H locs) (hl : lv_has ls 5 [(2, .int w2), (0, .ref (sm_a v 68)), (1, .int w1)]) (hf : j_Model_refusal_140 M w2 w1 z0 rec95 = some (r, M')) : W p l e rm_Model_refusal s m args below meth c H locs 0 0 (MQ below (sm_Qi v M' o r) args s 0 0 (sm_A v)) (F0 m 140 ls [.int z0]) := by
  have hx := hC.1
  have hb := hC.2.1
  unfold j_Model_refusal_140 at hf
  refine lv_istore hx hb d_Model_refusal_140 hl (Nat.le_of_ble_eq_true rfl) rfl (fun ls hl => ?_)
  have hl : lv_has ls 5 [(4, .int z0), (2, .int w2), (0, .ref (sm_a v 68)), (1, .int w1)] := hl
  refine lv_iload hx hb d_Model_refusal_142 (lv_at hl 0 rfl) ?_
  refine lv_if_ne hx hb d_Model_refusal_144 rfl (fun h144_11 => ?_) (fun h144_11 => ?_)
  · have hf := sm_f h144_11 hf
    refine lv_iinc (v := w2 + (1 : Int32)) (k := 1) hx hb d_Model_refusal_164 hl rfl rfl (Nat.le_of_ble_eq_true rfl) rfl (fun ls hl => ?_)
    have hl : lv_has ls 5 [(2, .int (w2 + (1 : Int32))), (4, .int z0), (0, .ref (sm_a v 68)), (1, .int w1)] := hl
    refine lv_goto hx hb d_Model_refusal_167 rfl ?_
    exact hout95 _ _ _ _ ls hG (lv_sub hl [0, 2, 3] rfl) hf
  · have hf := sm_t h144_11 hf
    refine lv_sipush (v := -3000) hx hb d_Model_refusal_147 (by decide) ?_
    refine lv_bipush (v := 100) hx hb d_Model_refusal_150 (by decide) ?_
    refine lv_iload_n hx hb d_Model_refusal_152 rfl (lv_at hl 1 rfl) ?_
    refine lv_bipush (v := 16) hx hb d_Model_refusal_153 (by decide) ?_
    refine lv_idiv hx hb d_Model_refusal_155 (by decide) ?_
    refine lv_imul hx hb d_Model_refusal_156 ?_
    refine lv_isub hx hb d_Model_refusal_157 ?_
    refine lv_iload_n hx hb d_Model_refusal_158 rfl (lv_at hl 1 rfl) ?_
    refine lv_bipush (v := 16) hx hb d_Model_refusal_159 (by decide) ?_
    refine lv_irem hx hb d_Model_refusal_161 (by decide) ?_
    refine lv_isub hx hb d_Model_refusal_162 ?_
    obtain ⟨rfl, rfl⟩ := Prod.mk.inj (Option.some.inj hf)
    exact sm_iret hC hr hlk hG d_Model_refusal_163
set_option maxHeartbeats 4000000 in
set_option maxRecDepth 100000 in
theorem jw_Model_refusal_135 {p : Program} {l : Launch} {e : Env} {s : State} {m : MethodId} {args : Array Value} {below : List Frame} {meth : Method} {c : Code} {v : sm_V} {o : sm_O} {r : Int32} {M' : sm_M} (hC : CallFix p m c b_Model_refusal 5 s args w_Model_refusal R_Model) (hr : meth.sig.returnType = some .int) (hlk : meth.locks = false) (hK : sm_K v s) (M : sm_M) (w2 : Int32) (w1 : Int32) (rec95 : sm_M → Int32 → Option (Int32 × sm_M)) (hout95 : ∀ (M : sm_M) (w2 : Int32) (H : Heap) (locs : List Loc) (ls : Array Slot), sm_G v M o s H locs → lv_has ls 5 [(2, .int w2), (0, .ref (sm_a v 68)), (1, .int w1)] → rec95 M w2 = some (r, M') → W p l e rm_Model_refusal s m args below meth c H locs 0 0 (MQ below (sm_Qi v M' o r) args s 0 0 (sm_A v)) (F0 m 95 ls [])) {H : Heap} {locs : List Loc} {ls : Array Slot} (hG : sm_G v M o s H locs) (hl : lv_has ls 5 [(2, .int w2), (0, .ref (sm_a v 68)), (1, .int w1)]) (hf : j_Model_refusal_135 M w2 w1 rec95 = some (r, M')) : W p l e rm_Model_refusal s m args below meth c H locs 0 0 (MQ below (sm_Qi v M' o r) args s 0 0 (sm_A v)) (F0 m 135 ls []) := by
  have hx := hC.1
  have hb := hC.2.1
  unfold j_Model_refusal_135 at hf
  refine lv_iconst (v := 1) hx hb d_Model_refusal_135 (by decide) ?_
  refine lv_goto hx hb d_Model_refusal_136 rfl ?_
  exact jw_Model_refusal_140 hC hr hlk hK M w2 w1 (1 : Int32) _ hout95 hG hl hf
set_option maxHeartbeats 4000000 in
set_option maxRecDepth 100000 in
theorem jw_Model_refusal_122 {p : Program} {l : Launch} {e : Env} {s : State} {m : MethodId} {args : Array Value} {below : List Frame} {meth : Method} {c : Code} {v : sm_V} {o : sm_O} {r : Int32} {M' : sm_M} (hC : CallFix p m c b_Model_refusal 5 s args w_Model_refusal R_Model) (hr : meth.sig.returnType = some .int) (hlk : meth.locks = false) (hK : sm_K v s) (M : sm_M) (w2 : Int32) (w1 : Int32) (z0 : Int32) (rec95 : sm_M → Int32 → Option (Int32 × sm_M)) (hout95 : ∀ (M : sm_M) (w2 : Int32) (H : Heap) (locs : List Loc) (ls : Array Slot), sm_G v M o s H locs → lv_has ls 5 [(2, .int w2), (0, .ref (sm_a v 68)), (1, .int w1)] → rec95 M w2 = some (r, M') → W p l e rm_Model_refusal s m args below meth c H locs 0 0 (MQ below (sm_Qi v M' o r) args s 0 0 (sm_A v)) (F0 m 95 ls [])) {H : Heap} {locs : List Loc} {ls : Array Slot} (hG : sm_G v M o s H locs) (hl : lv_has ls 5 [(2, .int w2), (0, .ref (sm_a v 68)), (1, .int w1)]) (hf : j_Model_refusal_122 M w2 w1 z0 rec95 = some (r, M')) : W p l e rm_Model_refusal s m args below meth c H locs 0 0 (MQ below (sm_Qi v M' o r) args s 0 0 (sm_A v)) (F0 m 122 ls [.int z0]) := by
  have hx := hC.1
  have hb := hC.2.1
  unfold j_Model_refusal_122 at hf
  refine lv_istore_n hx hb d_Model_refusal_122 rfl hl (Nat.le_of_ble_eq_true rfl) rfl (fun ls hl => ?_)
  have hl : lv_has ls 5 [(3, .int z0), (2, .int w2), (0, .ref (sm_a v 68)), (1, .int w1)] := hl
  refine lv_iload_n hx hb d_Model_refusal_123 rfl (lv_at hl 0 rfl) ?_
  refine lv_if_eq hx hb d_Model_refusal_124 rfl (fun h124_10 => ?_) (fun h124_10 => ?_)
  · have hf := sm_t h124_10 hf
    exact jw_Model_refusal_135 hC hr hlk hK M w2 w1 _ hout95 hG (lv_sub hl [1, 2, 3] rfl) hf
  · have hf := sm_f h124_10 hf
    refine lv_aload_n hx hb d_Model_refusal_127 rfl (lv_at hl 2 rfl) ?_
    refine lv_iload_n hx hb d_Model_refusal_128 rfl (lv_at hl 1 rfl) ?_
    obtain ⟨r129_13, M129_14, hc129_12, hf⟩ := sm_of_b2 hf
    refine ca_Model_119 hC hK hG (c_Model_makes hc129_12) hl.1 ⟨Nat.le_of_ble_eq_true rfl, Nat.le_of_ble_eq_true rfl⟩ ⟨Nat.zero_le _, Nat.zero_le _⟩ (Nat.le_of_ble_eq_true rfl) d_Model_refusal_129 (fun H locs hG => ?_)
    refine lv_if_eq hx hb d_Model_refusal_132 rfl (fun h132_15 => ?_) (fun h132_15 => ?_)
    · have hf := sm_t h132_15 hf
      refine lv_iconst (v := 0) hx hb d_Model_refusal_139 (by decide) ?_
      exact jw_Model_refusal_140 hC hr hlk hK M129_14 w2 w1 (0 : Int32) _ hout95 hG (lv_sub hl [1, 2, 3] rfl) hf
    · have hf := sm_f h132_15 hf
      exact jw_Model_refusal_135 hC hr hlk hK M129_14 w2 w1 _ hout95 hG (lv_sub hl [1, 2, 3] rfl) hf
set_option maxHeartbeats 4000000 in
set_option maxRecDepth 100000 in
theorem lw_Model_refusal_95 {p : Program} {l : Launch} {e : Env} {s : State} {m : MethodId} {args : Array Value} {below : List Frame} {meth : Method} {c : Code} {v : sm_V} {o : sm_O} {r : Int32} {M' : sm_M} (hC : CallFix p m c b_Model_refusal 5 s args w_Model_refusal R_Model) (hr : meth.sig.returnType = some .int) (hlk : meth.locks = false) (hK : sm_K v s) (w1 : Int32) :
    ∀ (n : Nat) (M : sm_M) (w2 : Int32) (H : Heap) (locs : List Loc) (ls : Array Slot), sm_G v M o s H locs → lv_has ls 5 [(2, .int w2), (0, .ref (sm_a v 68)), (1, .int w1)] → sm_lp2 (g_Model_refusal_95 w1) n M w2 = some (r, M') → W p l e rm_Model_refusal s m args below meth c H locs 0 0 (MQ below (sm_Qi v M' o r) args s 0 0 (sm_A v)) (F0 m 95 ls []) := by
  have hx := hC.1
  have hb := hC.2.1
  intro n
  induction n with
  | zero =>
    intro M w2 H locs ls hG hl hf
    cases hf
  | succ n ih =>
    intro M w2 H locs ls hG hl hf
    have hf : g_Model_refusal_95 w1 (sm_lp2 (g_Model_refusal_95 w1) n) M w2 = some (r, M') := hf
    unfold g_Model_refusal_95 at hf
    refine lv_iload_n hx hb d_Model_refusal_95 rfl (lv_at hl 0 rfl) ?_
    refine lv_bipush (v := 64) hx hb d_Model_refusal_96 (by decide) ?_
    refine lv_icmp_ge hx hb d_Model_refusal_98 rfl (fun h98_3 => ?_) (fun h98_3 => ?_)
    · have hf := sm_t h98_3 hf
      refine lv_aload_n hx hb d_Model_refusal_170 rfl (lv_at hl 1 rfl) ?_
      refine lv_iload_n hx hb d_Model_refusal_171 rfl (lv_at hl 2 rfl) ?_
      obtain ⟨r172_5, hc172_4, hf⟩ := sm_of_b1 hf
      refine ca_Model_101 hC hK hG (c_Model_globalOne hc172_4) hl.1 ⟨Nat.le_of_ble_eq_true rfl, Nat.le_of_ble_eq_true rfl⟩ ⟨Nat.zero_le _, Nat.zero_le _⟩ (Nat.le_of_ble_eq_true rfl) d_Model_refusal_172 ?_
      refine lv_iconst (v := -1) hx hb d_Model_refusal_175 (by decide) ?_
      refine lv_icmp_ne hx hb d_Model_refusal_176 rfl (fun h176_7 => ?_) (fun h176_7 => ?_)
      · have hf := sm_f h176_7 hf
        refine lv_iconst (v := 0) hx hb d_Model_refusal_187 (by decide) ?_
        obtain ⟨rfl, rfl⟩ := Prod.mk.inj (Option.some.inj hf)
        exact sm_iret hC hr hlk hG d_Model_refusal_188
      · have hf := sm_t h176_7 hf
        refine lv_sipush (v := -4000) hx hb d_Model_refusal_179 (by decide) ?_
        refine lv_iload_n hx hb d_Model_refusal_182 rfl (lv_at hl 2 rfl) ?_
        refine lv_isub hx hb d_Model_refusal_183 ?_
        refine lv_goto hx hb d_Model_refusal_184 rfl ?_
        obtain ⟨rfl, rfl⟩ := Prod.mk.inj (Option.some.inj hf)
        exact sm_iret hC hr hlk hG d_Model_refusal_188
    · have hf := sm_f h98_3 hf
      refine lv_iload_n hx hb d_Model_refusal_101 rfl (lv_at hl 0 rfl) ?_
      refine lv_bipush (v := 16) hx hb d_Model_refusal_102 (by decide) ?_
      refine lv_irem hx hb d_Model_refusal_104 (by decide) ?_
      refine lv_aload_n hx hb d_Model_refusal_105 rfl (lv_at hl 1 rfl) ?_
      refine gf_Model_32 hC hK hG d_Model_refusal_106 ?_
      refine lv_iload_n hx hb d_Model_refusal_109 rfl (lv_at hl 0 rfl) ?_
      refine lv_bipush (v := 16) hx hb d_Model_refusal_110 (by decide) ?_
      refine lv_idiv hx hb d_Model_refusal_112 (by decide) ?_
      obtain ⟨h113_8, hf⟩ := sm_of_gd hf
      refine sm_iald hC hK hG (by decide) rfl h113_8 d_Model_refusal_113 ?_
      refine lv_icmp_ge hx hb d_Model_refusal_114 rfl (fun h114_9 => ?_) (fun h114_9 => ?_)
      · have hf := sm_t h114_9 hf
        refine lv_iconst (v := 0) hx hb d_Model_refusal_121 (by decide) ?_
        exact jw_Model_refusal_122 hC hr hlk hK M w2 w1 (0 : Int32) _ ih hG hl hf
      · have hf := sm_f h114_9 hf
        refine lv_iconst (v := 1) hx hb d_Model_refusal_117 (by decide) ?_
        refine lv_goto hx hb d_Model_refusal_118 rfl ?_
        exact jw_Model_refusal_122 hC hr hlk hK M w2 w1 (1 : Int32) _ ih hG hl hf
set_option maxHeartbeats 4000000 in
set_option maxRecDepth 100000 in
theorem lw_Model_refusal_30 {p : Program} {l : Launch} {e : Env} {s : State} {m : MethodId} {args : Array Value} {below : List Frame} {meth : Method} {c : Code} {v : sm_V} {o : sm_O} {r : Int32} {M' : sm_M} (hC : CallFix p m c b_Model_refusal 5 s args w_Model_refusal R_Model) (hr : meth.sig.returnType = some .int) (hlk : meth.locks = false) (hK : sm_K v s) (M : sm_M) (w1 : Int32) :
    ∀ (n : Nat) (w2 : Int32) (H : Heap) (locs : List Loc) (ls : Array Slot), sm_G v M o s H locs → lv_has ls 5 [(2, .int w2), (0, .ref (sm_a v 68)), (1, .int w1)] → sm_lp1 (g_Model_refusal_30 M w1) n w2 = some (r, M') → W p l e rm_Model_refusal s m args below meth c H locs 0 0 (MQ below (sm_Qi v M' o r) args s 0 0 (sm_A v)) (F0 m 30 ls []) := by
  have hx := hC.1
  have hb := hC.2.1
  intro n
  induction n with
  | zero =>
    intro w2 H locs ls hG hl hf
    cases hf
  | succ n ih =>
    intro w2 H locs ls hG hl hf
    have hf : g_Model_refusal_30 M w1 (sm_lp1 (g_Model_refusal_30 M w1) n) w2 = some (r, M') := hf
    unfold g_Model_refusal_30 at hf
    refine lv_iload_n hx hb d_Model_refusal_30 rfl (lv_at hl 0 rfl) ?_
    refine lv_bipush (v := 64) hx hb d_Model_refusal_31 (by decide) ?_
    refine lv_icmp_ge hx hb d_Model_refusal_33 rfl (fun h33_2 => ?_) (fun h33_2 => ?_)
    · have hf := sm_t h33_2 hf
      refine lv_iconst (v := 0) hx hb d_Model_refusal_93 (by decide) ?_
      refine lv_istore_n hx hb d_Model_refusal_94 rfl hl (Nat.le_of_ble_eq_true rfl) rfl (fun ls hl => ?_)
      have hl : lv_has ls 5 [(2, .int (0 : Int32)), (0, .ref (sm_a v 68)), (1, .int w1)] := hl
      exact lw_Model_refusal_95 hC hr hlk hK w1 1100 _ _ _ _ ls hG hl hf
    · have hf := sm_f h33_2 hf
      refine lv_iload_n hx hb d_Model_refusal_36 rfl (lv_at hl 0 rfl) ?_
      refine lv_bipush (v := 16) hx hb d_Model_refusal_37 (by decide) ?_
      refine lv_irem hx hb d_Model_refusal_39 (by decide) ?_
      refine lv_aload_n hx hb d_Model_refusal_40 rfl (lv_at hl 1 rfl) ?_
      refine gf_Model_32 hC hK hG d_Model_refusal_41 ?_
      refine lv_iload_n hx hb d_Model_refusal_44 rfl (lv_at hl 0 rfl) ?_
      refine lv_bipush (v := 16) hx hb d_Model_refusal_45 (by decide) ?_
      refine lv_idiv hx hb d_Model_refusal_47 (by decide) ?_
      obtain ⟨h48_16, hf⟩ := sm_of_gd hf
      refine sm_iald hC hK hG (by decide) rfl h48_16 d_Model_refusal_48 ?_
      refine lv_icmp_ge hx hb d_Model_refusal_49 rfl (fun h49_17 => ?_) (fun h49_17 => ?_)
      · have hf := sm_t h49_17 hf
        refine lv_iinc (v := w2 + (1 : Int32)) (k := 0) hx hb d_Model_refusal_87 hl rfl rfl (Nat.le_of_ble_eq_true rfl) rfl (fun ls hl => ?_)
        have hl : lv_has ls 5 [(2, .int (w2 + (1 : Int32))), (0, .ref (sm_a v 68)), (1, .int w1)] := hl
        refine lv_goto hx hb d_Model_refusal_90 rfl ?_
        exact ih _ _ _ ls hG hl hf
      · have hf := sm_f h49_17 hf
        refine lv_aload_n hx hb d_Model_refusal_52 rfl (lv_at hl 1 rfl) ?_
        refine lv_iload_n hx hb d_Model_refusal_53 rfl (lv_at hl 0 rfl) ?_
        refine lv_bipush (v := 16) hx hb d_Model_refusal_54 (by decide) ?_
        refine lv_idiv hx hb d_Model_refusal_56 (by decide) ?_
        refine lv_aload_n hx hb d_Model_refusal_57 rfl (lv_at hl 1 rfl) ?_
        refine gf_Model_44 hC hK hG d_Model_refusal_58 ?_
        refine lv_iload_n hx hb d_Model_refusal_61 rfl (lv_at hl 0 rfl) ?_
        obtain ⟨h62_18, hf⟩ := sm_of_gd hf
        refine sm_iald hC hK hG (by decide) rfl h62_18 d_Model_refusal_62 ?_
        obtain ⟨r63_20, hc63_19, hf⟩ := sm_of_b1 hf
        refine ca_Model_104 hC hK hG (c_Model_needed hc63_19) hl.1 ⟨Nat.le_of_ble_eq_true rfl, Nat.le_of_ble_eq_true rfl⟩ ⟨Nat.zero_le _, Nat.zero_le _⟩ (Nat.le_of_ble_eq_true rfl) d_Model_refusal_63 ?_
        refine lv_iconst (v := -1) hx hb d_Model_refusal_66 (by decide) ?_
        refine lv_icmp_ne hx hb d_Model_refusal_67 rfl (fun h67_22 => ?_) (fun h67_22 => ?_)
        · have hf := sm_f h67_22 hf
          refine lv_iinc (v := w2 + (1 : Int32)) (k := 0) hx hb d_Model_refusal_87 hl rfl rfl (Nat.le_of_ble_eq_true rfl) rfl (fun ls hl => ?_)
          have hl : lv_has ls 5 [(2, .int (w2 + (1 : Int32))), (0, .ref (sm_a v 68)), (1, .int w1)] := hl
          refine lv_goto hx hb d_Model_refusal_90 rfl ?_
          exact ih _ _ _ ls hG hl hf
        · have hf := sm_t h67_22 hf
          refine lv_sipush (v := -2000) hx hb d_Model_refusal_70 (by decide) ?_
          refine lv_bipush (v := 100) hx hb d_Model_refusal_73 (by decide) ?_
          refine lv_iload_n hx hb d_Model_refusal_75 rfl (lv_at hl 0 rfl) ?_
          refine lv_bipush (v := 16) hx hb d_Model_refusal_76 (by decide) ?_
          refine lv_idiv hx hb d_Model_refusal_78 (by decide) ?_
          refine lv_imul hx hb d_Model_refusal_79 ?_
          refine lv_isub hx hb d_Model_refusal_80 ?_
          refine lv_iload_n hx hb d_Model_refusal_81 rfl (lv_at hl 0 rfl) ?_
          refine lv_bipush (v := 16) hx hb d_Model_refusal_82 (by decide) ?_
          refine lv_irem hx hb d_Model_refusal_84 (by decide) ?_
          refine lv_isub hx hb d_Model_refusal_85 ?_
          obtain ⟨rfl, rfl⟩ := Prod.mk.inj (Option.some.inj hf)
          exact sm_iret hC hr hlk hG d_Model_refusal_86
set_option maxHeartbeats 4000000 in
set_option maxRecDepth 100000 in
theorem lw_Model_refusal_2 {p : Program} {l : Launch} {e : Env} {s : State} {m : MethodId} {args : Array Value} {below : List Frame} {meth : Method} {c : Code} {v : sm_V} {o : sm_O} {r : Int32} {M' : sm_M} (hC : CallFix p m c b_Model_refusal 5 s args w_Model_refusal R_Model) (hr : meth.sig.returnType = some .int) (hlk : meth.locks = false) (hK : sm_K v s) (M : sm_M) (w1 : Int32) :
    ∀ (n : Nat) (w2 : Int32) (H : Heap) (locs : List Loc) (ls : Array Slot), sm_G v M o s H locs → lv_has ls 5 [(2, .int w2), (0, .ref (sm_a v 68)), (1, .int w1)] → sm_lp1 (g_Model_refusal_2 M w1) n w2 = some (r, M') → W p l e rm_Model_refusal s m args below meth c H locs 0 0 (MQ below (sm_Qi v M' o r) args s 0 0 (sm_A v)) (F0 m 2 ls []) := by
  have hx := hC.1
  have hb := hC.2.1
  intro n
  induction n with
  | zero =>
    intro w2 H locs ls hG hl hf
    cases hf
  | succ n ih =>
    intro w2 H locs ls hG hl hf
    have hf : g_Model_refusal_2 M w1 (sm_lp1 (g_Model_refusal_2 M w1) n) w2 = some (r, M') := hf
    unfold g_Model_refusal_2 at hf
    refine lv_iload_n hx hb d_Model_refusal_2 rfl (lv_at hl 0 rfl) ?_
    refine lv_bipush (v := 16) hx hb d_Model_refusal_3 (by decide) ?_
    refine lv_icmp_ge hx hb d_Model_refusal_5 rfl (fun h5_1 => ?_) (fun h5_1 => ?_)
    · have hf := sm_t h5_1 hf
      refine lv_iconst (v := 0) hx hb d_Model_refusal_28 (by decide) ?_
      refine lv_istore_n hx hb d_Model_refusal_29 rfl hl (Nat.le_of_ble_eq_true rfl) rfl (fun ls hl => ?_)
      have hl : lv_has ls 5 [(2, .int (0 : Int32)), (0, .ref (sm_a v 68)), (1, .int w1)] := hl
      exact lw_Model_refusal_30 hC hr hlk hK M w1 1100 _ _ _ ls hG hl hf
    · have hf := sm_f h5_1 hf
      refine lv_aload_n hx hb d_Model_refusal_8 rfl (lv_at hl 1 rfl) ?_
      refine lv_iload_n hx hb d_Model_refusal_9 rfl (lv_at hl 0 rfl) ?_
      obtain ⟨r10_24, hc10_23, hf⟩ := sm_of_b1 hf
      refine ca_Model_115 hC hK hG (c_Model_twice hc10_23) hl.1 ⟨Nat.le_of_ble_eq_true rfl, Nat.le_of_ble_eq_true rfl⟩ ⟨Nat.zero_le _, Nat.zero_le _⟩ (Nat.le_of_ble_eq_true rfl) d_Model_refusal_10 ?_
      refine lv_if_eq hx hb d_Model_refusal_13 rfl (fun h13_26 => ?_) (fun h13_26 => ?_)
      · have hf := sm_t h13_26 hf
        refine lv_iinc (v := w2 + (1 : Int32)) (k := 0) hx hb d_Model_refusal_22 hl rfl rfl (Nat.le_of_ble_eq_true rfl) rfl (fun ls hl => ?_)
        have hl : lv_has ls 5 [(2, .int (w2 + (1 : Int32))), (0, .ref (sm_a v 68)), (1, .int w1)] := hl
        refine lv_goto hx hb d_Model_refusal_25 rfl ?_
        exact ih _ _ _ ls hG hl hf
      · have hf := sm_f h13_26 hf
        refine lv_sipush (v := -1000) hx hb d_Model_refusal_16 (by decide) ?_
        refine lv_iload_n hx hb d_Model_refusal_19 rfl (lv_at hl 0 rfl) ?_
        refine lv_isub hx hb d_Model_refusal_20 ?_
        obtain ⟨rfl, rfl⟩ := Prod.mk.inj (Option.some.inj hf)
        exact sm_iret hC hr hlk hG d_Model_refusal_21
set_option maxHeartbeats 4000000 in
set_option maxRecDepth 100000 in
theorem c_Model_refusal {l : Launch} {v : sm_V} {o : sm_O} {M : sm_M} {a0 : Int32} {r : Int32} {M' : sm_M} (hf : f_Model_refusal M a0 = some (r, M')) : sm_Ci l y_Model_refusal w_Model_refusal rm_Model_refusal v [.ref (sm_a v 68), .int a0] M o r M' := by
  refine sm_met (cc := b_Model_refusal) (nL := 5) (ret := some .int) (plainFor_of_name (by decide)) rfl (Nat.le_of_ble_eq_true rfl) (fun p e s m args below meth c hC hr hlk hK hG ls hl => ?_)
  have hx := hC.1
  have hb := hC.2.1
  have hl : lv_has ls 5 [(0, .ref (sm_a v 68)), (1, .int a0)] := hl
  unfold f_Model_refusal at hf
  refine lv_iconst (v := 0) hx hb d_Model_refusal_0 (by decide) ?_
  refine lv_istore_n hx hb d_Model_refusal_1 rfl hl (Nat.le_of_ble_eq_true rfl) rfl (fun ls hl => ?_)
  have hl : lv_has ls 5 [(2, .int (0 : Int32)), (0, .ref (sm_a v 68)), (1, .int a0)] := hl
  exact lw_Model_refusal_2 hC hr hlk hK M a0 1100 _ _ _ ls hG hl hf
abbrev w_Model_bytes : List Cond := Cond.code y_Model_bytes b_Model_bytes 3 (none) :: sm_AW
abbrev rm_Model_bytes : Room := { frames := 0, cells := 0, slots := 0, locals := 0 }
def g_Model_bytes_2 (w1 : Int32) (rec2 : sm_M → Int32 → Option (sm_M)) (M : sm_M) (w2 : Int32) : Option (sm_M) :=
(if (4 : Int32) ≤ w2 then
(some M)
else
sm_gd (M 68 18) 1000 (
sm_nm (sm_up M 86 (Int32.toNatClampNeg (M 68 18)) ((w1 >>> (((8 : Int32) * w2) &&& 31)) &&& (255 : Int32))) fun M25_3 =>
sm_nm (sm_up M25_3 68 18 ((M25_3 68 18) + (1 : Int32))) fun M33_4 =>
rec2 M33_4 (w2 + (1 : Int32))))
def f_Model_bytes (M : sm_M) (a0 : Int32) : Option (sm_M) :=
sm_lp2 (g_Model_bytes_2 a0) 1100 M (0 : Int32)
set_option maxHeartbeats 4000000 in
set_option maxRecDepth 100000 in
theorem lw_Model_bytes_2 {p : Program} {l : Launch} {e : Env} {s : State} {m : MethodId} {args : Array Value} {below : List Frame} {meth : Method} {c : Code} {v : sm_V} {o : sm_O} {M' : sm_M} (hC : CallFix p m c b_Model_bytes 3 s args w_Model_bytes R_Model) (hr : meth.sig.returnType = none) (hlk : meth.locks = false) (hK : sm_K v s) (w1 : Int32) :
    ∀ (n : Nat) (M : sm_M) (w2 : Int32) (H : Heap) (locs : List Loc) (ls : Array Slot), sm_G v M o s H locs → lv_has ls 3 [(2, .int w2), (0, .ref (sm_a v 68)), (1, .int w1)] → sm_lp2 (g_Model_bytes_2 w1) n M w2 = some M' → W p l e rm_Model_bytes s m args below meth c H locs 0 0 (MQ below (sm_Qv v M' o) args s 0 0 (sm_A v)) (F0 m 2 ls []) := by
  have hx := hC.1
  have hb := hC.2.1
  intro n
  induction n with
  | zero =>
    intro M w2 H locs ls hG hl hf
    cases hf
  | succ n ih =>
    intro M w2 H locs ls hG hl hf
    have hf : g_Model_bytes_2 w1 (sm_lp2 (g_Model_bytes_2 w1) n) M w2 = some M' := hf
    unfold g_Model_bytes_2 at hf
    refine lv_iload_n hx hb d_Model_bytes_2 rfl (lv_at hl 0 rfl) ?_
    refine lv_iconst (v := 4) hx hb d_Model_bytes_3 (by decide) ?_
    refine lv_icmp_ge hx hb d_Model_bytes_4 rfl (fun h4_1 => ?_) (fun h4_1 => ?_)
    · have hf := sm_t h4_1 hf
      obtain rfl := Option.some.inj hf
      exact sm_vret hC hr hlk hG d_Model_bytes_42
    · have hf := sm_f h4_1 hf
      refine lv_aload_n hx hb d_Model_bytes_7 rfl (lv_at hl 1 rfl) ?_
      refine gf_Model_62 hC hK hG d_Model_bytes_8 ?_
      refine lv_aload_n hx hb d_Model_bytes_11 rfl (lv_at hl 1 rfl) ?_
      refine gf_Model_122 hC hK hG d_Model_bytes_12 ?_
      refine lv_iload_n hx hb d_Model_bytes_15 rfl (lv_at hl 2 rfl) ?_
      refine lv_bipush (v := 8) hx hb d_Model_bytes_16 (by decide) ?_
      refine lv_iload_n hx hb d_Model_bytes_18 rfl (lv_at hl 0 rfl) ?_
      refine lv_imul hx hb d_Model_bytes_19 ?_
      refine lv_ishr hx hb d_Model_bytes_20 ?_
      refine lv_sipush (v := 255) hx hb d_Model_bytes_21 (by decide) ?_
      refine lv_iand hx hb d_Model_bytes_24 ?_
      obtain ⟨h25_2, hf⟩ := sm_of_gd hf
      refine sm_iast hC hK hG (by decide) rfl h25_2 d_Model_bytes_25 (fun M25_3 H locs eM25_3 hG => ?_)
      have hf := sm_of eM25_3 hf
      refine lv_aload_n hx hb d_Model_bytes_26 rfl (lv_at hl 1 rfl) ?_
      refine lv_dup hx hb d_Model_bytes_27 rfl ?_
      refine gf_Model_122 hC hK hG d_Model_bytes_28 ?_
      refine lv_iconst (v := 1) hx hb d_Model_bytes_31 (by decide) ?_
      refine lv_iadd hx hb d_Model_bytes_32 ?_
      refine pf_Model_122 hC hK hG d_Model_bytes_33 (fun M33_4 H locs eM33_4 hG => ?_)
      have hf := sm_of eM33_4 hf
      refine lv_iinc (v := w2 + (1 : Int32)) (k := 0) hx hb d_Model_bytes_36 hl rfl rfl (Nat.le_of_ble_eq_true rfl) rfl (fun ls hl => ?_)
      have hl : lv_has ls 3 [(2, .int (w2 + (1 : Int32))), (0, .ref (sm_a v 68)), (1, .int w1)] := hl
      refine lv_goto hx hb d_Model_bytes_39 rfl ?_
      exact ih _ _ _ _ ls hG hl hf
set_option maxHeartbeats 4000000 in
set_option maxRecDepth 100000 in
theorem c_Model_bytes {l : Launch} {v : sm_V} {o : sm_O} {M : sm_M} {a0 : Int32} {M' : sm_M} (hf : f_Model_bytes M a0 = some M') : sm_Cv l y_Model_bytes w_Model_bytes rm_Model_bytes v [.ref (sm_a v 68), .int a0] M o M' := by
  refine sm_met (cc := b_Model_bytes) (nL := 3) (ret := none) (plainFor_of_name (by decide)) rfl (Nat.le_of_ble_eq_true rfl) (fun p e s m args below meth c hC hr hlk hK hG ls hl => ?_)
  have hx := hC.1
  have hb := hC.2.1
  have hl : lv_has ls 3 [(0, .ref (sm_a v 68)), (1, .int a0)] := hl
  unfold f_Model_bytes at hf
  refine lv_iconst (v := 0) hx hb d_Model_bytes_0 (by decide) ?_
  refine lv_istore_n hx hb d_Model_bytes_1 rfl hl (Nat.le_of_ble_eq_true rfl) rfl (fun ls hl => ?_)
  have hl : lv_has ls 3 [(2, .int (0 : Int32)), (0, .ref (sm_a v 68)), (1, .int a0)] := hl
  exact lw_Model_bytes_2 hC hr hlk hK a0 1100 _ _ _ _ ls hG hl hf
theorem ca_Model_126 {p : Program} {l : Launch} {e : Env} {R : Room} {s : State} {m : MethodId} {args : Array Value} {below : List Frame} {meth : Method} {c : Code} {H : Heap} {locs : List Loc} {cells slots : Nat} {Q : State → Prop} {cc : ByteArray} {nL pc : Nat} {ls : Array Slot} {rest : List Value} {w0 : Cond} {v : sm_V} {M : sm_M} {o : sm_O} {x0 : Int32} {M' : sm_M} (hC : CallFix p m c cc nL s args (w0 :: sm_AW) R_Model) (hK : sm_K v s) (hG : sm_G v M o s H locs) (hM : sm_Cv l y_Model_begins w_Model_begins rm_Model_begins v [.ref (sm_a v 68), .int x0] M o M') (hsz : ls.size = nL) (hR : rm_Model_begins.frames + 1 ≤ R.frames ∧ 8 + (5 + 11) + rm_Model_begins.locals ≤ R.locals) (hcs : cells + 0 ≤ R.cells ∧ slots + 0 ≤ R.slots) (hW : (rest.map fun v => v.category).sum ≤ 8) (hdg : decode cc pc = .ok (.invokevirtual 126, 3))
    (kk : ∀ (H : Heap) (locs : List Loc), sm_G v M' o s H locs → W p l e R s m args below meth c H locs cells slots Q (F0 m (pc + 3) ls (rest))) : W p l e R s m args below meth c H locs cells slots Q (F0 m pc ls (.int x0 :: .ref (sm_a v 68) :: rest)) :=
  sm_callv (va_runV (C := R_Model) (As := [.int x0]) (rest := rest) hC hM (cwV 1 hC.2.2.2.2 (sm_good (sm_inV aw_825 aw_827 as_28 aw_7 aw_828)) rfl rfl rfl (by decide +kernel) hR) (sm_preV hK hG (by decide) rfl rfl) rfl rfl hsz rfl (lv_room hW) hdg hcs) hG kk
theorem ca_Model_130 {p : Program} {l : Launch} {e : Env} {R : Room} {s : State} {m : MethodId} {args : Array Value} {below : List Frame} {meth : Method} {c : Code} {H : Heap} {locs : List Loc} {cells slots : Nat} {Q : State → Prop} {cc : ByteArray} {nL pc : Nat} {ls : Array Slot} {rest : List Value} {w0 : Cond} {v : sm_V} {M : sm_M} {o : sm_O} {x0 : Int32} {r : Int32} {M' : sm_M} (hC : CallFix p m c cc nL s args (w0 :: sm_AW) R_Model) (hK : sm_K v s) (hG : sm_G v M o s H locs) (hM : sm_Ci l y_Model_refusal w_Model_refusal rm_Model_refusal v [.ref (sm_a v 68), .int x0] M o r M') (hsz : ls.size = nL) (hR : rm_Model_refusal.frames + 1 ≤ R.frames ∧ 8 + (5 + 11) + rm_Model_refusal.locals ≤ R.locals) (hcs : cells + 0 ≤ R.cells ∧ slots + 0 ≤ R.slots) (hW : (rest.map fun v => v.category).sum ≤ 8) (hdg : decode cc pc = .ok (.invokevirtual 130, 3))
    (kk : ∀ (H : Heap) (locs : List Loc), sm_G v M' o s H locs → W p l e R s m args below meth c H locs cells slots Q (F0 m (pc + 3) ls (.int r :: rest))) : W p l e R s m args below meth c H locs cells slots Q (F0 m pc ls (.int x0 :: .ref (sm_a v 68) :: rest)) :=
  sm_calli (va_runV (C := R_Model) (As := [.int x0]) (rest := rest) hC hM (cwV 1 hC.2.2.2.2 (sm_good (sm_inV aw_829 aw_831 as_29 aw_7 aw_832)) rfl rfl rfl (by decide +kernel) hR) (sm_preV hK hG (by decide) rfl rfl) rfl rfl hsz rfl (lv_room hW) hdg hcs) hG kk
theorem ca_Model_133 {p : Program} {l : Launch} {e : Env} {R : Room} {s : State} {m : MethodId} {args : Array Value} {below : List Frame} {meth : Method} {c : Code} {H : Heap} {locs : List Loc} {cells slots : Nat} {Q : State → Prop} {cc : ByteArray} {nL pc : Nat} {ls : Array Slot} {rest : List Value} {w0 : Cond} {v : sm_V} {M : sm_M} {o : sm_O} {x0 : Int32} {r : Int32} (hC : CallFix p m c cc nL s args (w0 :: sm_AW) R_Model) (hK : sm_K v s) (hG : sm_G v M o s H locs) (hM : sm_Ri l y_Model_end w_Model_end rm_Model_end v [.ref (sm_a v 68), .int x0] M o r) (hsz : ls.size = nL) (hR : rm_Model_end.frames + 1 ≤ R.frames ∧ 8 + (4 + 11) + rm_Model_end.locals ≤ R.locals) (hcs : cells + 0 ≤ R.cells ∧ slots + 0 ≤ R.slots) (hW : (rest.map fun v => v.category).sum ≤ 8) (hdg : decode cc pc = .ok (.invokevirtual 133, 3))
    (kk : W p l e R s m args below meth c H locs cells slots Q (F0 m (pc + 3) ls (.int r :: rest))) : W p l e R s m args below meth c H locs cells slots Q (F0 m pc ls (.int x0 :: .ref (sm_a v 68) :: rest)) :=
  sm_calli0 (va_runV (C := R_Model) (As := [.int x0]) (rest := rest) hC hM (cwV 1 hC.2.2.2.2 (sm_good (sm_inV aw_860 aw_862 as_36 aw_7 aw_863)) rfl rfl rfl (by decide +kernel) hR) (sm_preV hK hG (by decide) rfl rfl) rfl rfl hsz rfl (lv_room hW) hdg hcs) kk
theorem ca_Model_137 {p : Program} {l : Launch} {e : Env} {R : Room} {s : State} {m : MethodId} {args : Array Value} {below : List Frame} {meth : Method} {c : Code} {H : Heap} {locs : List Loc} {cells slots : Nat} {Q : State → Prop} {cc : ByteArray} {nL pc : Nat} {ls : Array Slot} {rest : List Value} {w0 : Cond} {v : sm_V} {M : sm_M} {o : sm_O} {x0 : Int32} {M' : sm_M} (hC : CallFix p m c cc nL s args (w0 :: sm_AW) R_Model) (hK : sm_K v s) (hG : sm_G v M o s H locs) (hM : sm_Cv l y_Model_bytes w_Model_bytes rm_Model_bytes v [.ref (sm_a v 68), .int x0] M o M') (hsz : ls.size = nL) (hR : rm_Model_bytes.frames + 1 ≤ R.frames ∧ 8 + (3 + 11) + rm_Model_bytes.locals ≤ R.locals) (hcs : cells + 0 ≤ R.cells ∧ slots + 0 ≤ R.slots) (hW : (rest.map fun v => v.category).sum ≤ 8) (hdg : decode cc pc = .ok (.invokevirtual 137, 3))
    (kk : ∀ (H : Heap) (locs : List Loc), sm_G v M' o s H locs → W p l e R s m args below meth c H locs cells slots Q (F0 m (pc + 3) ls (rest))) : W p l e R s m args below meth c H locs cells slots Q (F0 m pc ls (.int x0 :: .ref (sm_a v 68) :: rest)) :=
  sm_callv (va_runV (C := R_Model) (As := [.int x0]) (rest := rest) hC hM (cwV 1 hC.2.2.2.2 (sm_good (sm_inV aw_865 aw_867 as_37 aw_7 aw_868)) rfl rfl rfl (by decide +kernel) hR) (sm_preV hK hG (by decide) rfl rfl) rfl rfl hsz rfl (lv_room hW) hdg hcs) hG kk
abbrev w_Model_link : List Cond := Cond.code y_Model_link b_Model_link 10 (some .int) :: sm_AW
abbrev rm_Model_link : Room := { frames := 5, cells := 0, slots := 0, locals := 125 }
def g_Model_link_265 (w8 : Int32) (w7 : Int32) (rec256 : sm_M → Int32 → Option (Int32 × sm_M)) (rec265 : sm_M → Int32 → Option (Int32 × sm_M)) (M : sm_M) (w9 : Int32) : Option (Int32 × sm_M) :=
sm_gd (((2 : Int32) * w8) + w7) 8 (
(if (M 70 (Int32.toNatClampNeg (((2 : Int32) * w8) + w7))) ≤ w9 then
rec256 M (w8 + (1 : Int32))
else
sm_gd ((((48 : Int32) * w8) + ((24 : Int32) * w7)) + w9) 192 (
sm_b1 (f_Model_bytes M (M 82 (Int32.toNatClampNeg ((((48 : Int32) * w8) + ((24 : Int32) * w7)) + w9)))) fun M302_59 =>
rec265 M302_59 (w9 + (1 : Int32)))))
def g_Model_link_256 (w7 : Int32) (rec247 : sm_M → Int32 → Option (Int32 × sm_M)) (rec256 : sm_M → Int32 → Option (Int32 × sm_M)) (M : sm_M) (w8 : Int32) : Option (Int32 × sm_M) :=
(if (4 : Int32) ≤ w8 then
rec247 M (w7 + (1 : Int32))
else
sm_lp2 (g_Model_link_265 w8 w7 rec256) 1100 M (0 : Int32))
def g_Model_link_247 (rec247 : sm_M → Int32 → Option (Int32 × sm_M)) (M : sm_M) (w7 : Int32) : Option (Int32 × sm_M) :=
(if (2 : Int32) ≤ w7 then
(some (M 68 18, M))
else
sm_lp2 (g_Model_link_256 w7 rec247) 1100 M (0 : Int32))
def j_Model_link_96 (M : sm_M) (y5 : Int32) (w4 : Int32) (w1 : Int32) (w2 : Int32) (z0 : Int32) (z1 : Int32) (rec64 : sm_M → Int32 → Option (Int32 × sm_M)) : Option (Int32 × sm_M) :=
sm_gd z1 16 (
sm_nm (sm_up M 84 (Int32.toNatClampNeg z1) (vp_nar .boolean z0)) fun M96_65 =>
(if y5 = (-1 : Int32) then
sm_gd w4 16 (
sm_nm (sm_up M96_65 85 (Int32.toNatClampNeg w4) (-1 : Int32)) fun M119_68 =>
rec64 M119_68 (w4 + (1 : Int32)))
else
sm_b1 (f_Model_valueOf M96_65 y5) fun r112_70 =>
sm_gd w4 16 (
sm_nm (sm_up M96_65 85 (Int32.toNatClampNeg w4) r112_70) fun M119_73 =>
rec64 M119_73 (w4 + (1 : Int32)))))
def g_Model_link_64 (w1 : Int32) (w2 : Int32) (rec64 : sm_M → Int32 → Option (Int32 × sm_M)) (M : sm_M) (w4 : Int32) : Option (Int32 × sm_M) :=
(if (16 : Int32) ≤ w4 then
sm_b1 (f_Model_end M (0 : Int32)) fun r129_13 =>
sm_nm ((4 : Int32) * r129_13) fun x133_15 =>
sm_b1 (f_Model_end M (1 : Int32)) fun r138_17 =>
sm_nm ((4 : Int32) * r138_17) fun x142_19 =>
sm_gd w2 16 (
sm_nm (M 85 (Int32.toNatClampNeg w2)) fun x150_21 =>
sm_nm (sm_up M 68 18 (0 : Int32)) fun M154_22 =>
sm_b1 (f_Model_bytes M154_22 (1263422796 : Int32)) fun M160_25 =>
sm_b1 (f_Model_bytes M160_25 x150_21) fun M166_28 =>
sm_b1 (f_Model_bytes M166_28 w1) fun M171_31 =>
sm_b1 (f_Model_bytes M171_31 x133_15) fun M177_34 =>
sm_b1 (f_Model_bytes M177_34 (36 : Int32)) fun M183_37 =>
sm_gd (1 : Int32) 8 (
sm_b1 (f_Model_bytes M183_37 (M183_37 83 (Int32.toNatClampNeg (1 : Int32)))) fun M193_41 =>
sm_b1 (f_Model_bytes M193_41 x142_19) fun M199_44 =>
sm_b1 (f_Model_bytes M199_44 ((36 : Int32) + x133_15)) fun M208_47 =>
sm_gd (1 : Int32) 8 (
sm_b1 (f_Model_bytes M208_47 (((((((((1263422796 : Int32) + x150_21) + w1) + x133_15) + (36 : Int32)) + (M208_47 83 (Int32.toNatClampNeg (1 : Int32)))) + x142_19) + (36 : Int32)) + x133_15)) fun M241_51 =>
sm_lp2 (g_Model_link_247) 1100 M241_51 (0 : Int32))))
else
sm_b1 (f_Model_globalOne M w4) fun r74_61 =>
(if r74_61 = (-1 : Int32) then
j_Model_link_96 M r74_61 w4 w1 w2 (0 : Int32) w4 rec64
else
j_Model_link_96 M r74_61 w4 w1 w2 (1 : Int32) w4 rec64))
def j_Model_link_32 (M : sm_M) (y1 : Int32) (y2 : Int32) (z0 : Int32) : Option (Int32 × sm_M) :=
sm_nm (sm_up M 68 0 z0) fun M32_2 =>
(if (M32_2 68 0) ≤ 0 then
sm_b1 (f_Model_begins M32_2 y1) fun M46_6 =>
sm_b2 (f_Model_refusal M46_6 y2) fun r51_8 M51_9 =>
(if 0 ≤ r51_8 then
sm_lp2 (g_Model_link_64 y1 y2) 1100 M51_9 (0 : Int32)
else
(some (r51_8, M51_9)))
else
(some ((0 : Int32), M32_2)))
def j_Model_link_27 (M : sm_M) (y1 : Int32) (y2 : Int32) : Option (Int32 × sm_M) :=
j_Model_link_32 M y1 y2 (1 : Int32)
def f_Model_link (M : sm_M) (a0 : Int32) (a1 : Int32) : Option (Int32 × sm_M) :=
(if a0 < 0 then
j_Model_link_27 M a0 a1
else
(if (1000000000 : Int32) < a0 then
j_Model_link_27 M a0 a1
else
(if (a0 - a0 / (4 : Int32) * (4 : Int32)) = 0 then
sm_b1 (f_Model_within a1 (0 : Int32) (15 : Int32)) fun r21_77 =>
(if r21_77 = 0 then
j_Model_link_27 M a0 a1
else
j_Model_link_32 M a0 a1 (0 : Int32))
else
j_Model_link_27 M a0 a1)))
set_option maxHeartbeats 4000000 in
set_option maxRecDepth 100000 in
theorem lw_Model_link_265 {p : Program} {l : Launch} {e : Env} {s : State} {m : MethodId} {args : Array Value} {below : List Frame} {meth : Method} {c : Code} {v : sm_V} {o : sm_O} {r : Int32} {M' : sm_M} (hC : CallFix p m c b_Model_link 10 s args w_Model_link R_Model) (hr : meth.sig.returnType = some .int) (hlk : meth.locks = false) (hK : sm_K v s) (w8 : Int32) (w7 : Int32) (rec256 : sm_M → Int32 → Option (Int32 × sm_M)) (hout256 : ∀ (M : sm_M) (w8 : Int32) (H : Heap) (locs : List Loc) (ls : Array Slot), sm_G v M o s H locs → lv_has ls 10 [(8, .int w8), (7, .int w7), (0, .ref (sm_a v 68))] → rec256 M w8 = some (r, M') → W p l e rm_Model_link s m args below meth c H locs 0 0 (MQ below (sm_Qi v M' o r) args s 0 0 (sm_A v)) (F0 m 256 ls [])) :
    ∀ (n : Nat) (M : sm_M) (w9 : Int32) (H : Heap) (locs : List Loc) (ls : Array Slot), sm_G v M o s H locs → lv_has ls 10 [(9, .int w9), (8, .int w8), (7, .int w7), (0, .ref (sm_a v 68))] → sm_lp2 (g_Model_link_265 w8 w7 rec256) n M w9 = some (r, M') → W p l e rm_Model_link s m args below meth c H locs 0 0 (MQ below (sm_Qi v M' o r) args s 0 0 (sm_A v)) (F0 m 265 ls []) := by
  have hx := hC.1
  have hb := hC.2.1
  intro n
  induction n with
  | zero =>
    intro M w9 H locs ls hG hl hf
    cases hf
  | succ n ih =>
    intro M w9 H locs ls hG hl hf
    have hf : g_Model_link_265 w8 w7 rec256 (sm_lp2 (g_Model_link_265 w8 w7 rec256) n) M w9 = some (r, M') := hf
    unfold g_Model_link_265 at hf
    refine lv_iload hx hb d_Model_link_265 (lv_at hl 0 rfl) ?_
    refine lv_aload_n hx hb d_Model_link_267 rfl (lv_at hl 3 rfl) ?_
    refine gf_Model_13 hC hK hG d_Model_link_268 ?_
    refine lv_iconst (v := 2) hx hb d_Model_link_271 (by decide) ?_
    refine lv_iload hx hb d_Model_link_272 (lv_at hl 1 rfl) ?_
    refine lv_imul hx hb d_Model_link_274 ?_
    refine lv_iload hx hb d_Model_link_275 (lv_at hl 2 rfl) ?_
    refine lv_iadd hx hb d_Model_link_277 ?_
    obtain ⟨h278_54, hf⟩ := sm_of_gd hf
    refine sm_iald hC hK hG (by decide) rfl h278_54 d_Model_link_278 ?_
    refine lv_icmp_ge hx hb d_Model_link_279 rfl (fun h279_55 => ?_) (fun h279_55 => ?_)
    · have hf := sm_t h279_55 hf
      refine lv_iinc (v := w8 + (1 : Int32)) (k := 1) hx hb d_Model_link_311 hl rfl rfl (Nat.le_of_ble_eq_true rfl) rfl (fun ls hl => ?_)
      have hl : lv_has ls 10 [(8, .int (w8 + (1 : Int32))), (9, .int w9), (7, .int w7), (0, .ref (sm_a v 68))] := hl
      refine lv_goto hx hb d_Model_link_314 rfl ?_
      exact hout256 _ _ _ _ ls hG (lv_sub hl [0, 2, 3] rfl) hf
    · have hf := sm_f h279_55 hf
      refine lv_aload_n hx hb d_Model_link_282 rfl (lv_at hl 3 rfl) ?_
      refine lv_aload_n hx hb d_Model_link_283 rfl (lv_at hl 3 rfl) ?_
      refine gf_Model_50 hC hK hG d_Model_link_284 ?_
      refine lv_bipush (v := 48) hx hb d_Model_link_287 (by decide) ?_
      refine lv_iload hx hb d_Model_link_289 (lv_at hl 1 rfl) ?_
      refine lv_imul hx hb d_Model_link_291 ?_
      refine lv_bipush (v := 24) hx hb d_Model_link_292 (by decide) ?_
      refine lv_iload hx hb d_Model_link_294 (lv_at hl 2 rfl) ?_
      refine lv_imul hx hb d_Model_link_296 ?_
      refine lv_iadd hx hb d_Model_link_297 ?_
      refine lv_iload hx hb d_Model_link_298 (lv_at hl 0 rfl) ?_
      refine lv_iadd hx hb d_Model_link_300 ?_
      obtain ⟨h301_56, hf⟩ := sm_of_gd hf
      refine sm_iald hC hK hG (by decide) rfl h301_56 d_Model_link_301 ?_
      obtain ⟨M302_59, hc302_57, hf⟩ := sm_of_b1 hf
      refine ca_Model_137 hC hK hG (c_Model_bytes hc302_57) hl.1 ⟨Nat.le_of_ble_eq_true rfl, Nat.le_of_ble_eq_true rfl⟩ ⟨Nat.zero_le _, Nat.zero_le _⟩ (Nat.le_of_ble_eq_true rfl) d_Model_link_302 (fun H locs hG => ?_)
      refine lv_iinc (v := w9 + (1 : Int32)) (k := 0) hx hb d_Model_link_305 hl rfl rfl (Nat.le_of_ble_eq_true rfl) rfl (fun ls hl => ?_)
      have hl : lv_has ls 10 [(9, .int (w9 + (1 : Int32))), (8, .int w8), (7, .int w7), (0, .ref (sm_a v 68))] := hl
      refine lv_goto hx hb d_Model_link_308 rfl ?_
      exact ih _ _ _ _ ls hG hl hf
set_option maxHeartbeats 4000000 in
set_option maxRecDepth 100000 in
theorem lw_Model_link_256 {p : Program} {l : Launch} {e : Env} {s : State} {m : MethodId} {args : Array Value} {below : List Frame} {meth : Method} {c : Code} {v : sm_V} {o : sm_O} {r : Int32} {M' : sm_M} (hC : CallFix p m c b_Model_link 10 s args w_Model_link R_Model) (hr : meth.sig.returnType = some .int) (hlk : meth.locks = false) (hK : sm_K v s) (w7 : Int32) (rec247 : sm_M → Int32 → Option (Int32 × sm_M)) (hout247 : ∀ (M : sm_M) (w7 : Int32) (H : Heap) (locs : List Loc) (ls : Array Slot), sm_G v M o s H locs → lv_has ls 10 [(7, .int w7), (0, .ref (sm_a v 68))] → rec247 M w7 = some (r, M') → W p l e rm_Model_link s m args below meth c H locs 0 0 (MQ below (sm_Qi v M' o r) args s 0 0 (sm_A v)) (F0 m 247 ls [])) :
    ∀ (n : Nat) (M : sm_M) (w8 : Int32) (H : Heap) (locs : List Loc) (ls : Array Slot), sm_G v M o s H locs → lv_has ls 10 [(8, .int w8), (7, .int w7), (0, .ref (sm_a v 68))] → sm_lp2 (g_Model_link_256 w7 rec247) n M w8 = some (r, M') → W p l e rm_Model_link s m args below meth c H locs 0 0 (MQ below (sm_Qi v M' o r) args s 0 0 (sm_A v)) (F0 m 256 ls []) := by
  have hx := hC.1
  have hb := hC.2.1
  intro n
  induction n with
  | zero =>
    intro M w8 H locs ls hG hl hf
    cases hf
  | succ n ih =>
    intro M w8 H locs ls hG hl hf
    have hf : g_Model_link_256 w7 rec247 (sm_lp2 (g_Model_link_256 w7 rec247) n) M w8 = some (r, M') := hf
    unfold g_Model_link_256 at hf
    refine lv_iload hx hb d_Model_link_256 (lv_at hl 0 rfl) ?_
    refine lv_iconst (v := 4) hx hb d_Model_link_258 (by decide) ?_
    refine lv_icmp_ge hx hb d_Model_link_259 rfl (fun h259_53 => ?_) (fun h259_53 => ?_)
    · have hf := sm_t h259_53 hf
      refine lv_iinc (v := w7 + (1 : Int32)) (k := 1) hx hb d_Model_link_317 hl rfl rfl (Nat.le_of_ble_eq_true rfl) rfl (fun ls hl => ?_)
      have hl : lv_has ls 10 [(7, .int (w7 + (1 : Int32))), (8, .int w8), (0, .ref (sm_a v 68))] := hl
      refine lv_goto hx hb d_Model_link_320 rfl ?_
      exact hout247 _ _ _ _ ls hG (lv_sub hl [0, 2] rfl) hf
    · have hf := sm_f h259_53 hf
      refine lv_iconst (v := 0) hx hb d_Model_link_262 (by decide) ?_
      refine lv_istore hx hb d_Model_link_263 hl (Nat.le_of_ble_eq_true rfl) rfl (fun ls hl => ?_)
      have hl : lv_has ls 10 [(9, .int (0 : Int32)), (8, .int w8), (7, .int w7), (0, .ref (sm_a v 68))] := hl
      exact lw_Model_link_265 hC hr hlk hK w8 w7 _ ih 1100 _ _ _ _ ls hG hl hf
set_option maxHeartbeats 4000000 in
set_option maxRecDepth 100000 in
theorem lw_Model_link_247 {p : Program} {l : Launch} {e : Env} {s : State} {m : MethodId} {args : Array Value} {below : List Frame} {meth : Method} {c : Code} {v : sm_V} {o : sm_O} {r : Int32} {M' : sm_M} (hC : CallFix p m c b_Model_link 10 s args w_Model_link R_Model) (hr : meth.sig.returnType = some .int) (hlk : meth.locks = false) (hK : sm_K v s) :
    ∀ (n : Nat) (M : sm_M) (w7 : Int32) (H : Heap) (locs : List Loc) (ls : Array Slot), sm_G v M o s H locs → lv_has ls 10 [(7, .int w7), (0, .ref (sm_a v 68))] → sm_lp2 (g_Model_link_247) n M w7 = some (r, M') → W p l e rm_Model_link s m args below meth c H locs 0 0 (MQ below (sm_Qi v M' o r) args s 0 0 (sm_A v)) (F0 m 247 ls []) := by
  have hx := hC.1
  have hb := hC.2.1
  intro n
  induction n with
  | zero =>
    intro M w7 H locs ls hG hl hf
    cases hf
  | succ n ih =>
    intro M w7 H locs ls hG hl hf
    have hf : g_Model_link_247 (sm_lp2 (g_Model_link_247) n) M w7 = some (r, M') := hf
    unfold g_Model_link_247 at hf
    refine lv_iload hx hb d_Model_link_247 (lv_at hl 0 rfl) ?_
    refine lv_iconst (v := 2) hx hb d_Model_link_249 (by decide) ?_
    refine lv_icmp_ge hx hb d_Model_link_250 rfl (fun h250_52 => ?_) (fun h250_52 => ?_)
    · have hf := sm_t h250_52 hf
      refine lv_aload_n hx hb d_Model_link_323 rfl (lv_at hl 1 rfl) ?_
      refine gf_Model_122 hC hK hG d_Model_link_324 ?_
      obtain ⟨rfl, rfl⟩ := Prod.mk.inj (Option.some.inj hf)
      exact sm_iret hC hr hlk hG d_Model_link_327
    · have hf := sm_f h250_52 hf
      refine lv_iconst (v := 0) hx hb d_Model_link_253 (by decide) ?_
      refine lv_istore hx hb d_Model_link_254 hl (Nat.le_of_ble_eq_true rfl) rfl (fun ls hl => ?_)
      have hl : lv_has ls 10 [(8, .int (0 : Int32)), (7, .int w7), (0, .ref (sm_a v 68))] := hl
      exact lw_Model_link_256 hC hr hlk hK w7 _ ih 1100 _ _ _ _ ls hG hl hf
set_option maxHeartbeats 4000000 in
set_option maxRecDepth 100000 in
theorem jw_Model_link_96 {p : Program} {l : Launch} {e : Env} {s : State} {m : MethodId} {args : Array Value} {below : List Frame} {meth : Method} {c : Code} {v : sm_V} {o : sm_O} {r : Int32} {M' : sm_M} (hC : CallFix p m c b_Model_link 10 s args w_Model_link R_Model) (hr : meth.sig.returnType = some .int) (hlk : meth.locks = false) (hK : sm_K v s) (M : sm_M) (y5 : Int32) (w4 : Int32) (w1 : Int32) (w2 : Int32) (z0 : Int32) (z1 : Int32) (rec64 : sm_M → Int32 → Option (Int32 × sm_M)) (hout64 : ∀ (M : sm_M) (w4 : Int32) (H : Heap) (locs : List Loc) (ls : Array Slot), sm_G v M o s H locs → lv_has ls 10 [(4, .int w4), (0, .ref (sm_a v 68)), (1, .int w1), (2, .int w2)] → rec64 M w4 = some (r, M') → W p l e rm_Model_link s m args below meth c H locs 0 0 (MQ below (sm_Qi v M' o r) args s 0 0 (sm_A v)) (F0 m 64 ls [])) {H : Heap} {locs : List Loc} {ls : Array Slot} (hG : sm_G v M o s H locs) (hl : lv_has ls 10 [(5, .int y5), (4, .int w4), (0, .ref (sm_a v 68)), (1, .int w1), (2, .int w2)]) (hf : j_Model_link_96 M y5 w4 w1 w2 z0 z1 rec64 = some (r, M')) : W p l e rm_Model_link s m args below meth c H locs 0 0 (MQ below (sm_Qi v M' o r) args s 0 0 (sm_A v)) (F0 m 96 ls [.int z0, .int z1, .ref (sm_a v 84)]) := by
  have hx := hC.1
  have hb := hC.2.1
  unfold j_Model_link_96 at hf
  obtain ⟨h96_64, hf⟩ := sm_of_gd hf
  refine sm_zast hC hK hG (by decide) rfl h96_64 d_Model_link_96 (fun M96_65 H locs eM96_65 hG => ?_)
  have hf := sm_of eM96_65 hf
  refine lv_aload_n hx hb d_Model_link_97 rfl (lv_at hl 2 rfl) ?_
  refine gf_Model_59 hC hK hG d_Model_link_98 ?_
  refine lv_iload hx hb d_Model_link_101 (lv_at hl 1 rfl) ?_
  refine lv_iload hx hb d_Model_link_103 (lv_at hl 0 rfl) ?_
  refine lv_iconst (v := -1) hx hb d_Model_link_105 (by decide) ?_
  refine lv_icmp_eq hx hb d_Model_link_106 rfl (fun h106_66 => ?_) (fun h106_66 => ?_)
  · have hf := sm_t h106_66 hf
    refine lv_iconst (v := -1) hx hb d_Model_link_118 (by decide) ?_
    obtain ⟨h119_67, hf⟩ := sm_of_gd hf
    refine sm_iast hC hK hG (by decide) rfl h119_67 d_Model_link_119 (fun M119_68 H locs eM119_68 hG => ?_)
    have hf := sm_of eM119_68 hf
    refine lv_iinc (v := w4 + (1 : Int32)) (k := 1) hx hb d_Model_link_120 hl rfl rfl (Nat.le_of_ble_eq_true rfl) rfl (fun ls hl => ?_)
    have hl : lv_has ls 10 [(4, .int (w4 + (1 : Int32))), (5, .int y5), (0, .ref (sm_a v 68)), (1, .int w1), (2, .int w2)] := hl
    refine lv_goto hx hb d_Model_link_123 rfl ?_
    exact hout64 _ _ _ _ ls hG (lv_sub hl [0, 2, 3, 4] rfl) hf
  · have hf := sm_f h106_66 hf
    refine lv_aload_n hx hb d_Model_link_109 rfl (lv_at hl 2 rfl) ?_
    refine lv_iload hx hb d_Model_link_110 (lv_at hl 0 rfl) ?_
    obtain ⟨r112_70, hc112_69, hf⟩ := sm_of_b1 hf
    refine ca_Model_108 hC hK hG (c_Model_valueOf hc112_69) hl.1 ⟨Nat.le_of_ble_eq_true rfl, Nat.le_of_ble_eq_true rfl⟩ ⟨Nat.zero_le _, Nat.zero_le _⟩ (Nat.le_of_ble_eq_true rfl) d_Model_link_112 ?_
    refine lv_goto hx hb d_Model_link_115 rfl ?_
    obtain ⟨h119_72, hf⟩ := sm_of_gd hf
    refine sm_iast hC hK hG (by decide) rfl h119_72 d_Model_link_119 (fun M119_73 H locs eM119_73 hG => ?_)
    have hf := sm_of eM119_73 hf
    refine lv_iinc (v := w4 + (1 : Int32)) (k := 1) hx hb d_Model_link_120 hl rfl rfl (Nat.le_of_ble_eq_true rfl) rfl (fun ls hl => ?_)
    have hl : lv_has ls 10 [(4, .int (w4 + (1 : Int32))), (5, .int y5), (0, .ref (sm_a v 68)), (1, .int w1), (2, .int w2)] := hl
    refine lv_goto hx hb d_Model_link_123 rfl ?_
    exact hout64 _ _ _ _ ls hG (lv_sub hl [0, 2, 3, 4] rfl) hf
set_option maxHeartbeats 4000000 in
set_option maxRecDepth 100000 in
theorem lw_Model_link_64 {p : Program} {l : Launch} {e : Env} {s : State} {m : MethodId} {args : Array Value} {below : List Frame} {meth : Method} {c : Code} {v : sm_V} {o : sm_O} {r : Int32} {M' : sm_M} (hC : CallFix p m c b_Model_link 10 s args w_Model_link R_Model) (hr : meth.sig.returnType = some .int) (hlk : meth.locks = false) (hK : sm_K v s) (w1 : Int32) (w2 : Int32) :
    ∀ (n : Nat) (M : sm_M) (w4 : Int32) (H : Heap) (locs : List Loc) (ls : Array Slot), sm_G v M o s H locs → lv_has ls 10 [(4, .int w4), (0, .ref (sm_a v 68)), (1, .int w1), (2, .int w2)] → sm_lp2 (g_Model_link_64 w1 w2) n M w4 = some (r, M') → W p l e rm_Model_link s m args below meth c H locs 0 0 (MQ below (sm_Qi v M' o r) args s 0 0 (sm_A v)) (F0 m 64 ls []) := by
  have hx := hC.1
  have hb := hC.2.1
  intro n
  induction n with
  | zero =>
    intro M w4 H locs ls hG hl hf
    cases hf
  | succ n ih =>
    intro M w4 H locs ls hG hl hf
    have hf : g_Model_link_64 w1 w2 (sm_lp2 (g_Model_link_64 w1 w2) n) M w4 = some (r, M') := hf
    unfold g_Model_link_64 at hf
    refine lv_iload hx hb d_Model_link_64 (lv_at hl 0 rfl) ?_
    refine lv_bipush (v := 16) hx hb d_Model_link_66 (by decide) ?_
    refine lv_icmp_ge hx hb d_Model_link_68 rfl (fun h68_11 => ?_) (fun h68_11 => ?_)
    · have hf := sm_t h68_11 hf
      refine lv_iconst (v := 4) hx hb d_Model_link_126 (by decide) ?_
      refine lv_aload_n hx hb d_Model_link_127 rfl (lv_at hl 1 rfl) ?_
      refine lv_iconst (v := 0) hx hb d_Model_link_128 (by decide) ?_
      obtain ⟨r129_13, hc129_12, hf⟩ := sm_of_b1 hf
      refine ca_Model_133 hC hK hG (c_Model_end hc129_12) hl.1 ⟨Nat.le_of_ble_eq_true rfl, Nat.le_of_ble_eq_true rfl⟩ ⟨Nat.zero_le _, Nat.zero_le _⟩ (Nat.le_of_ble_eq_true rfl) d_Model_link_129 ?_
      refine lv_imul hx hb d_Model_link_132 ?_
      refine lv_topi (fun x133_15 ex133_15 => ?_)
      have hf := sm_of ex133_15 hf
      refine lv_istore hx hb d_Model_link_133 hl (Nat.le_of_ble_eq_true rfl) rfl (fun ls hl => ?_)
      have hl : lv_has ls 10 [(4, .int x133_15), (0, .ref (sm_a v 68)), (1, .int w1), (2, .int w2)] := hl
      refine lv_iconst (v := 4) hx hb d_Model_link_135 (by decide) ?_
      refine lv_aload_n hx hb d_Model_link_136 rfl (lv_at hl 1 rfl) ?_
      refine lv_iconst (v := 1) hx hb d_Model_link_137 (by decide) ?_
      obtain ⟨r138_17, hc138_16, hf⟩ := sm_of_b1 hf
      refine ca_Model_133 hC hK hG (c_Model_end hc138_16) hl.1 ⟨Nat.le_of_ble_eq_true rfl, Nat.le_of_ble_eq_true rfl⟩ ⟨Nat.zero_le _, Nat.zero_le _⟩ (Nat.le_of_ble_eq_true rfl) d_Model_link_138 ?_
      refine lv_imul hx hb d_Model_link_141 ?_
      refine lv_topi (fun x142_19 ex142_19 => ?_)
      have hf := sm_of ex142_19 hf
      refine lv_istore hx hb d_Model_link_142 hl (Nat.le_of_ble_eq_true rfl) rfl (fun ls hl => ?_)
      have hl : lv_has ls 10 [(5, .int x142_19), (4, .int x133_15), (0, .ref (sm_a v 68)), (1, .int w1), (2, .int w2)] := hl
      refine lv_aload_n hx hb d_Model_link_144 rfl (lv_at hl 2 rfl) ?_
      refine gf_Model_59 hC hK hG d_Model_link_145 ?_
      refine lv_iload_n hx hb d_Model_link_148 rfl (lv_at hl 4 rfl) ?_
      obtain ⟨h149_20, hf⟩ := sm_of_gd hf
      refine sm_iald hC hK hG (by decide) rfl h149_20 d_Model_link_149 ?_
      refine lv_topi (fun x150_21 ex150_21 => ?_)
      have hf := sm_of ex150_21 hf
      refine lv_istore hx hb d_Model_link_150 hl (Nat.le_of_ble_eq_true rfl) rfl (fun ls hl => ?_)
      have hl : lv_has ls 10 [(6, .int x150_21), (5, .int x142_19), (4, .int x133_15), (0, .ref (sm_a v 68)), (1, .int w1), (2, .int w2)] := hl
      have hl : lv_has ls 10 [(6, .int x150_21), (5, .int x142_19), (4, .int x133_15), (0, .ref (sm_a v 68)), (1, .int w1)] := lv_sub hl [0, 1, 2, 3, 4] rfl
      refine lv_aload_n hx hb d_Model_link_152 rfl (lv_at hl 3 rfl) ?_
      refine lv_iconst (v := 0) hx hb d_Model_link_153 (by decide) ?_
      refine pf_Model_122 hC hK hG d_Model_link_154 (fun M154_22 H locs eM154_22 hG => ?_)
      have hf := sm_of eM154_22 hf
      refine lv_aload_n hx hb d_Model_link_157 rfl (lv_at hl 3 rfl) ?_
      refine lv_ldc hx hb hC.2.2.2.1 (hC.2.2.2.2 _ (List.mem_cons_of_mem _ aw_864)) d_Model_link_158 ?_
      obtain ⟨M160_25, hc160_23, hf⟩ := sm_of_b1 hf
      refine ca_Model_137 hC hK hG (c_Model_bytes hc160_23) hl.1 ⟨Nat.le_of_ble_eq_true rfl, Nat.le_of_ble_eq_true rfl⟩ ⟨Nat.zero_le _, Nat.zero_le _⟩ (Nat.le_of_ble_eq_true rfl) d_Model_link_160 (fun H locs hG => ?_)
      refine lv_aload_n hx hb d_Model_link_163 rfl (lv_at hl 3 rfl) ?_
      refine lv_iload hx hb d_Model_link_164 (lv_at hl 0 rfl) ?_
      obtain ⟨M166_28, hc166_26, hf⟩ := sm_of_b1 hf
      refine ca_Model_137 hC hK hG (c_Model_bytes hc166_26) hl.1 ⟨Nat.le_of_ble_eq_true rfl, Nat.le_of_ble_eq_true rfl⟩ ⟨Nat.zero_le _, Nat.zero_le _⟩ (Nat.le_of_ble_eq_true rfl) d_Model_link_166 (fun H locs hG => ?_)
      refine lv_aload_n hx hb d_Model_link_169 rfl (lv_at hl 3 rfl) ?_
      refine lv_iload_n hx hb d_Model_link_170 rfl (lv_at hl 4 rfl) ?_
      obtain ⟨M171_31, hc171_29, hf⟩ := sm_of_b1 hf
      refine ca_Model_137 hC hK hG (c_Model_bytes hc171_29) hl.1 ⟨Nat.le_of_ble_eq_true rfl, Nat.le_of_ble_eq_true rfl⟩ ⟨Nat.zero_le _, Nat.zero_le _⟩ (Nat.le_of_ble_eq_true rfl) d_Model_link_171 (fun H locs hG => ?_)
      refine lv_aload_n hx hb d_Model_link_174 rfl (lv_at hl 3 rfl) ?_
      refine lv_iload hx hb d_Model_link_175 (lv_at hl 2 rfl) ?_
      obtain ⟨M177_34, hc177_32, hf⟩ := sm_of_b1 hf
      refine ca_Model_137 hC hK hG (c_Model_bytes hc177_32) hl.1 ⟨Nat.le_of_ble_eq_true rfl, Nat.le_of_ble_eq_true rfl⟩ ⟨Nat.zero_le _, Nat.zero_le _⟩ (Nat.le_of_ble_eq_true rfl) d_Model_link_177 (fun H locs hG => ?_)
      refine lv_aload_n hx hb d_Model_link_180 rfl (lv_at hl 3 rfl) ?_
      refine lv_bipush (v := 36) hx hb d_Model_link_181 (by decide) ?_
      obtain ⟨M183_37, hc183_35, hf⟩ := sm_of_b1 hf
      refine ca_Model_137 hC hK hG (c_Model_bytes hc183_35) hl.1 ⟨Nat.le_of_ble_eq_true rfl, Nat.le_of_ble_eq_true rfl⟩ ⟨Nat.zero_le _, Nat.zero_le _⟩ (Nat.le_of_ble_eq_true rfl) d_Model_link_183 (fun H locs hG => ?_)
      refine lv_aload_n hx hb d_Model_link_186 rfl (lv_at hl 3 rfl) ?_
      refine lv_aload_n hx hb d_Model_link_187 rfl (lv_at hl 3 rfl) ?_
      refine gf_Model_53 hC hK hG d_Model_link_188 ?_
      refine lv_iconst (v := 1) hx hb d_Model_link_191 (by decide) ?_
      obtain ⟨h192_38, hf⟩ := sm_of_gd hf
      refine sm_iald hC hK hG (by decide) rfl h192_38 d_Model_link_192 ?_
      obtain ⟨M193_41, hc193_39, hf⟩ := sm_of_b1 hf
      refine ca_Model_137 hC hK hG (c_Model_bytes hc193_39) hl.1 ⟨Nat.le_of_ble_eq_true rfl, Nat.le_of_ble_eq_true rfl⟩ ⟨Nat.zero_le _, Nat.zero_le _⟩ (Nat.le_of_ble_eq_true rfl) d_Model_link_193 (fun H locs hG => ?_)
      refine lv_aload_n hx hb d_Model_link_196 rfl (lv_at hl 3 rfl) ?_
      refine lv_iload hx hb d_Model_link_197 (lv_at hl 1 rfl) ?_
      obtain ⟨M199_44, hc199_42, hf⟩ := sm_of_b1 hf
      refine ca_Model_137 hC hK hG (c_Model_bytes hc199_42) hl.1 ⟨Nat.le_of_ble_eq_true rfl, Nat.le_of_ble_eq_true rfl⟩ ⟨Nat.zero_le _, Nat.zero_le _⟩ (Nat.le_of_ble_eq_true rfl) d_Model_link_199 (fun H locs hG => ?_)
      refine lv_aload_n hx hb d_Model_link_202 rfl (lv_at hl 3 rfl) ?_
      refine lv_bipush (v := 36) hx hb d_Model_link_203 (by decide) ?_
      refine lv_iload hx hb d_Model_link_205 (lv_at hl 2 rfl) ?_
      refine lv_iadd hx hb d_Model_link_207 ?_
      obtain ⟨M208_47, hc208_45, hf⟩ := sm_of_b1 hf
      refine ca_Model_137 hC hK hG (c_Model_bytes hc208_45) hl.1 ⟨Nat.le_of_ble_eq_true rfl, Nat.le_of_ble_eq_true rfl⟩ ⟨Nat.zero_le _, Nat.zero_le _⟩ (Nat.le_of_ble_eq_true rfl) d_Model_link_208 (fun H locs hG => ?_)
      refine lv_aload_n hx hb d_Model_link_211 rfl (lv_at hl 3 rfl) ?_
      refine lv_ldc hx hb hC.2.2.2.1 (hC.2.2.2.2 _ (List.mem_cons_of_mem _ aw_864)) d_Model_link_212 ?_
      refine lv_iload hx hb d_Model_link_214 (lv_at hl 0 rfl) ?_
      refine lv_iadd hx hb d_Model_link_216 ?_
      refine lv_iload_n hx hb d_Model_link_217 rfl (lv_at hl 4 rfl) ?_
      refine lv_iadd hx hb d_Model_link_218 ?_
      refine lv_iload hx hb d_Model_link_219 (lv_at hl 2 rfl) ?_
      refine lv_iadd hx hb d_Model_link_221 ?_
      refine lv_bipush (v := 36) hx hb d_Model_link_222 (by decide) ?_
      refine lv_iadd hx hb d_Model_link_224 ?_
      refine lv_aload_n hx hb d_Model_link_225 rfl (lv_at hl 3 rfl) ?_
      refine gf_Model_53 hC hK hG d_Model_link_226 ?_
      refine lv_iconst (v := 1) hx hb d_Model_link_229 (by decide) ?_
      obtain ⟨h230_48, hf⟩ := sm_of_gd hf
      refine sm_iald hC hK hG (by decide) rfl h230_48 d_Model_link_230 ?_
      refine lv_iadd hx hb d_Model_link_231 ?_
      refine lv_iload hx hb d_Model_link_232 (lv_at hl 1 rfl) ?_
      refine lv_iadd hx hb d_Model_link_234 ?_
      refine lv_bipush (v := 36) hx hb d_Model_link_235 (by decide) ?_
      refine lv_iadd hx hb d_Model_link_237 ?_
      refine lv_iload hx hb d_Model_link_238 (lv_at hl 2 rfl) ?_
      refine lv_iadd hx hb d_Model_link_240 ?_
      obtain ⟨M241_51, hc241_49, hf⟩ := sm_of_b1 hf
      refine ca_Model_137 hC hK hG (c_Model_bytes hc241_49) hl.1 ⟨Nat.le_of_ble_eq_true rfl, Nat.le_of_ble_eq_true rfl⟩ ⟨Nat.zero_le _, Nat.zero_le _⟩ (Nat.le_of_ble_eq_true rfl) d_Model_link_241 (fun H locs hG => ?_)
      refine lv_iconst (v := 0) hx hb d_Model_link_244 (by decide) ?_
      refine lv_istore hx hb d_Model_link_245 hl (Nat.le_of_ble_eq_true rfl) rfl (fun ls hl => ?_)
      have hl : lv_has ls 10 [(7, .int (0 : Int32)), (6, .int x150_21), (5, .int x142_19), (4, .int x133_15), (0, .ref (sm_a v 68)), (1, .int w1)] := hl
      have hl : lv_has ls 10 [(7, .int (0 : Int32)), (0, .ref (sm_a v 68))] := lv_sub hl [0, 4] rfl
      exact lw_Model_link_247 hC hr hlk hK  1100 _ _ _ _ ls hG hl hf
    · have hf := sm_f h68_11 hf
      refine lv_aload_n hx hb d_Model_link_71 rfl (lv_at hl 1 rfl) ?_
      refine lv_iload hx hb d_Model_link_72 (lv_at hl 0 rfl) ?_
      obtain ⟨r74_61, hc74_60, hf⟩ := sm_of_b1 hf
      refine ca_Model_101 hC hK hG (c_Model_globalOne hc74_60) hl.1 ⟨Nat.le_of_ble_eq_true rfl, Nat.le_of_ble_eq_true rfl⟩ ⟨Nat.zero_le _, Nat.zero_le _⟩ (Nat.le_of_ble_eq_true rfl) d_Model_link_74 ?_
      refine lv_istore hx hb d_Model_link_77 hl (Nat.le_of_ble_eq_true rfl) rfl (fun ls hl => ?_)
      have hl : lv_has ls 10 [(5, .int r74_61), (4, .int w4), (0, .ref (sm_a v 68)), (1, .int w1), (2, .int w2)] := hl
      refine lv_aload_n hx hb d_Model_link_79 rfl (lv_at hl 2 rfl) ?_
      refine gf_Model_56 hC hK hG d_Model_link_80 ?_
      refine lv_iload hx hb d_Model_link_83 (lv_at hl 1 rfl) ?_
      refine lv_iload hx hb d_Model_link_85 (lv_at hl 0 rfl) ?_
      refine lv_iconst (v := -1) hx hb d_Model_link_87 (by decide) ?_
      refine lv_icmp_eq hx hb d_Model_link_88 rfl (fun h88_63 => ?_) (fun h88_63 => ?_)
      · have hf := sm_t h88_63 hf
        refine lv_iconst (v := 0) hx hb d_Model_link_95 (by decide) ?_
        exact jw_Model_link_96 hC hr hlk hK M r74_61 w4 w1 w2 (0 : Int32) w4 _ ih hG hl hf
      · have hf := sm_f h88_63 hf
        refine lv_iconst (v := 1) hx hb d_Model_link_91 (by decide) ?_
        refine lv_goto hx hb d_Model_link_92 rfl ?_
        exact jw_Model_link_96 hC hr hlk hK M r74_61 w4 w1 w2 (1 : Int32) w4 _ ih hG hl hf
set_option maxHeartbeats 4000000 in
set_option maxRecDepth 100000 in
theorem jw_Model_link_32 {p : Program} {l : Launch} {e : Env} {s : State} {m : MethodId} {args : Array Value} {below : List Frame} {meth : Method} {c : Code} {v : sm_V} {o : sm_O} {r : Int32} {M' : sm_M} (hC : CallFix p m c b_Model_link 10 s args w_Model_link R_Model) (hr : meth.sig.returnType = some .int) (hlk : meth.locks = false) (hK : sm_K v s) (M : sm_M) (y1 : Int32) (y2 : Int32) (z0 : Int32) {H : Heap} {locs : List Loc} {ls : Array Slot} (hG : sm_G v M o s H locs) (hl : lv_has ls 10 [(0, .ref (sm_a v 68)), (1, .int y1), (2, .int y2)]) (hf : j_Model_link_32 M y1 y2 z0 = some (r, M')) : W p l e rm_Model_link s m args below meth c H locs 0 0 (MQ below (sm_Qi v M' o r) args s 0 0 (sm_A v)) (F0 m 32 ls [.int z0, .ref (sm_a v 68)]) := by
  have hx := hC.1
  have hb := hC.2.1
  unfold j_Model_link_32 at hf
  refine pf_Model_74 hC hK hG d_Model_link_32 (fun M32_2 H locs eM32_2 hG => ?_)
  have hf := sm_of eM32_2 hf
  refine lv_aload_n hx hb d_Model_link_35 rfl (lv_at hl 0 rfl) ?_
  refine gf_Model_74 hC hK hG d_Model_link_36 ?_
  refine lv_if_le hx hb d_Model_link_39 rfl (fun h39_3 => ?_) (fun h39_3 => ?_)
  · have hf := sm_t h39_3 hf
    refine lv_aload_n hx hb d_Model_link_44 rfl (lv_at hl 0 rfl) ?_
    refine lv_iload_n hx hb d_Model_link_45 rfl (lv_at hl 1 rfl) ?_
    obtain ⟨M46_6, hc46_4, hf⟩ := sm_of_b1 hf
    refine ca_Model_126 hC hK hG (c_Model_begins hc46_4) hl.1 ⟨Nat.le_of_ble_eq_true rfl, Nat.le_of_ble_eq_true rfl⟩ ⟨Nat.zero_le _, Nat.zero_le _⟩ (Nat.le_of_ble_eq_true rfl) d_Model_link_46 (fun H locs hG => ?_)
    refine lv_aload_n hx hb d_Model_link_49 rfl (lv_at hl 0 rfl) ?_
    refine lv_iload_n hx hb d_Model_link_50 rfl (lv_at hl 2 rfl) ?_
    obtain ⟨r51_8, M51_9, hc51_7, hf⟩ := sm_of_b2 hf
    refine ca_Model_130 hC hK hG (c_Model_refusal hc51_7) hl.1 ⟨Nat.le_of_ble_eq_true rfl, Nat.le_of_ble_eq_true rfl⟩ ⟨Nat.zero_le _, Nat.zero_le _⟩ (Nat.le_of_ble_eq_true rfl) d_Model_link_51 (fun H locs hG => ?_)
    refine lv_istore_n hx hb d_Model_link_54 rfl hl (Nat.le_of_ble_eq_true rfl) rfl (fun ls hl => ?_)
    have hl : lv_has ls 10 [(3, .int r51_8), (0, .ref (sm_a v 68)), (1, .int y1), (2, .int y2)] := hl
    refine lv_iload_n hx hb d_Model_link_55 rfl (lv_at hl 0 rfl) ?_
    refine lv_if_ge hx hb d_Model_link_56 rfl (fun h56_10 => ?_) (fun h56_10 => ?_)
    · have hf := sm_t h56_10 hf
      refine lv_iconst (v := 0) hx hb d_Model_link_61 (by decide) ?_
      refine lv_istore hx hb d_Model_link_62 hl (Nat.le_of_ble_eq_true rfl) rfl (fun ls hl => ?_)
      have hl : lv_has ls 10 [(4, .int (0 : Int32)), (3, .int r51_8), (0, .ref (sm_a v 68)), (1, .int y1), (2, .int y2)] := hl
      have hl : lv_has ls 10 [(4, .int (0 : Int32)), (0, .ref (sm_a v 68)), (1, .int y1), (2, .int y2)] := lv_sub hl [0, 2, 3, 4] rfl
      exact lw_Model_link_64 hC hr hlk hK y1 y2 1100 _ _ _ _ ls hG hl hf
    · have hf := sm_f h56_10 hf
      refine lv_iload_n hx hb d_Model_link_59 rfl (lv_at hl 0 rfl) ?_
      obtain ⟨rfl, rfl⟩ := Prod.mk.inj (Option.some.inj hf)
      exact sm_iret hC hr hlk hG d_Model_link_60
  · have hf := sm_f h39_3 hf
    refine lv_iconst (v := 0) hx hb d_Model_link_42 (by decide) ?_
    obtain ⟨rfl, rfl⟩ := Prod.mk.inj (Option.some.inj hf)
    exact sm_iret hC hr hlk hG d_Model_link_43
set_option maxHeartbeats 4000000 in
set_option maxRecDepth 100000 in
theorem jw_Model_link_27 {p : Program} {l : Launch} {e : Env} {s : State} {m : MethodId} {args : Array Value} {below : List Frame} {meth : Method} {c : Code} {v : sm_V} {o : sm_O} {r : Int32} {M' : sm_M} (hC : CallFix p m c b_Model_link 10 s args w_Model_link R_Model) (hr : meth.sig.returnType = some .int) (hlk : meth.locks = false) (hK : sm_K v s) (M : sm_M) (y1 : Int32) (y2 : Int32) {H : Heap} {locs : List Loc} {ls : Array Slot} (hG : sm_G v M o s H locs) (hl : lv_has ls 10 [(0, .ref (sm_a v 68)), (1, .int y1), (2, .int y2)]) (hf : j_Model_link_27 M y1 y2 = some (r, M')) : W p l e rm_Model_link s m args below meth c H locs 0 0 (MQ below (sm_Qi v M' o r) args s 0 0 (sm_A v)) (F0 m 27 ls [.ref (sm_a v 68)]) := by
  have hx := hC.1
  have hb := hC.2.1
  unfold j_Model_link_27 at hf
  refine lv_iconst (v := 1) hx hb d_Model_link_27 (by decide) ?_
  refine lv_goto hx hb d_Model_link_28 rfl ?_
  exact jw_Model_link_32 hC hr hlk hK M y1 y2 (1 : Int32) hG hl hf
set_option maxHeartbeats 4000000 in
set_option maxRecDepth 100000 in
theorem c_Model_link {l : Launch} {v : sm_V} {o : sm_O} {M : sm_M} {a0 : Int32} {a1 : Int32} {r : Int32} {M' : sm_M} (hf : f_Model_link M a0 a1 = some (r, M')) : sm_Ci l y_Model_link w_Model_link rm_Model_link v [.ref (sm_a v 68), .int a0, .int a1] M o r M' := by
  refine sm_met (cc := b_Model_link) (nL := 10) (ret := some .int) (plainFor_of_name (by decide)) rfl (Nat.le_of_ble_eq_true rfl) (fun p e s m args below meth c hC hr hlk hK hG ls hl => ?_)
  have hx := hC.1
  have hb := hC.2.1
  have hl : lv_has ls 10 [(0, .ref (sm_a v 68)), (1, .int a0), (2, .int a1)] := hl
  unfold f_Model_link at hf
  refine lv_aload_n hx hb d_Model_link_0 rfl (lv_at hl 0 rfl) ?_
  refine lv_iload_n hx hb d_Model_link_1 rfl (lv_at hl 1 rfl) ?_
  refine lv_if_lt hx hb d_Model_link_2 rfl (fun h2_1 => ?_) (fun h2_1 => ?_)
  · have hf := sm_t h2_1 hf
    exact jw_Model_link_27 hC hr hlk hK M a0 a1 hG hl hf
  · have hf := sm_f h2_1 hf
    refine lv_iload_n hx hb d_Model_link_5 rfl (lv_at hl 1 rfl) ?_
    refine lv_ldc hx hb hC.2.2.2.1 (hC.2.2.2.2 _ (List.mem_cons_of_mem _ aw_824)) d_Model_link_6 ?_
    refine lv_icmp_gt hx hb d_Model_link_8 rfl (fun h8_74 => ?_) (fun h8_74 => ?_)
    · have hf := sm_t h8_74 hf
      exact jw_Model_link_27 hC hr hlk hK M a0 a1 hG hl hf
    · have hf := sm_f h8_74 hf
      refine lv_iload_n hx hb d_Model_link_11 rfl (lv_at hl 1 rfl) ?_
      refine lv_iconst (v := 4) hx hb d_Model_link_12 (by decide) ?_
      refine lv_irem hx hb d_Model_link_13 (by decide) ?_
      refine lv_if_ne hx hb d_Model_link_14 rfl (fun h14_75 => ?_) (fun h14_75 => ?_)
      · have hf := sm_f h14_75 hf
        exact jw_Model_link_27 hC hr hlk hK M a0 a1 hG hl hf
      · have hf := sm_t h14_75 hf
        refine lv_iload_n hx hb d_Model_link_17 rfl (lv_at hl 2 rfl) ?_
        refine lv_iconst (v := 0) hx hb d_Model_link_18 (by decide) ?_
        refine lv_bipush (v := 15) hx hb d_Model_link_19 (by decide) ?_
        obtain ⟨r21_77, hc21_76, hf⟩ := sm_of_b1 hf
        refine ca_Model_82 hC hK hG (c_Model_within hc21_76) hl.1 ⟨Nat.le_of_ble_eq_true rfl, Nat.le_of_ble_eq_true rfl⟩ ⟨Nat.zero_le _, Nat.zero_le _⟩ (Nat.le_of_ble_eq_true rfl) d_Model_link_21 ?_
        refine lv_if_ne hx hb d_Model_link_24 rfl (fun h24_79 => ?_) (fun h24_79 => ?_)
        · have hf := sm_f h24_79 hf
          refine lv_iconst (v := 0) hx hb d_Model_link_31 (by decide) ?_
          exact jw_Model_link_32 hC hr hlk hK M a0 a1 (0 : Int32) hG hl hf
        · have hf := sm_t h24_79 hf
          exact jw_Model_link_27 hC hr hlk hK M a0 a1 hG hl hf
abbrev w_Model_image : List Cond := Cond.code y_Model_image b_Model_image 2 (some .int) :: sm_AW
abbrev rm_Model_image : Room := { frames := 0, cells := 0, slots := 0, locals := 0 }
def f_Model_image (M : sm_M) (a0 : Int32) : Option (Int32 × sm_M) :=
sm_nm (sm_up M 68 0 (0 : Int32)) fun M2_1 =>
(if a0 < 0 then
(some ((-1 : Int32), M2_1))
else
(if a0 < (M2_1 68 18) then
sm_gd a0 1000 (
(some (M2_1 86 (Int32.toNatClampNeg a0), M2_1)))
else
(some ((-1 : Int32), M2_1))))
set_option maxHeartbeats 4000000 in
set_option maxRecDepth 100000 in
theorem c_Model_image {l : Launch} {v : sm_V} {o : sm_O} {M : sm_M} {a0 : Int32} {r : Int32} {M' : sm_M} (hf : f_Model_image M a0 = some (r, M')) : sm_Ci l y_Model_image w_Model_image rm_Model_image v [.ref (sm_a v 68), .int a0] M o r M' := by
  refine sm_met (cc := b_Model_image) (nL := 2) (ret := some .int) (plainFor_of_name (by decide)) rfl (Nat.le_of_ble_eq_true rfl) (fun p e s m args below meth c hC hr hlk hK hG ls hl => ?_)
  have hx := hC.1
  have hb := hC.2.1
  have hl : lv_has ls 2 [(0, .ref (sm_a v 68)), (1, .int a0)] := hl
  unfold f_Model_image at hf
  refine lv_aload_n hx hb d_Model_image_0 rfl (lv_at hl 0 rfl) ?_
  refine lv_iconst (v := 0) hx hb d_Model_image_1 (by decide) ?_
  refine pf_Model_74 hC hK hG d_Model_image_2 (fun M2_1 H locs eM2_1 hG => ?_)
  have hf := sm_of eM2_1 hf
  refine lv_iload_n hx hb d_Model_image_5 rfl (lv_at hl 1 rfl) ?_
  refine lv_if_lt hx hb d_Model_image_6 rfl (fun h6_2 => ?_) (fun h6_2 => ?_)
  · have hf := sm_t h6_2 hf
    refine lv_iconst (v := -1) hx hb d_Model_image_17 (by decide) ?_
    refine lv_goto hx hb d_Model_image_18 rfl ?_
    obtain ⟨rfl, rfl⟩ := Prod.mk.inj (Option.some.inj hf)
    exact sm_iret hC hr hlk hG d_Model_image_27
  · have hf := sm_f h6_2 hf
    refine lv_iload_n hx hb d_Model_image_9 rfl (lv_at hl 1 rfl) ?_
    refine lv_aload_n hx hb d_Model_image_10 rfl (lv_at hl 0 rfl) ?_
    refine gf_Model_122 hC hK hG d_Model_image_11 ?_
    refine lv_icmp_lt hx hb d_Model_image_14 rfl (fun h14_3 => ?_) (fun h14_3 => ?_)
    · have hf := sm_t h14_3 hf
      refine lv_aload_n hx hb d_Model_image_21 rfl (lv_at hl 0 rfl) ?_
      refine gf_Model_62 hC hK hG d_Model_image_22 ?_
      refine lv_iload_n hx hb d_Model_image_25 rfl (lv_at hl 1 rfl) ?_
      obtain ⟨h26_4, hf⟩ := sm_of_gd hf
      refine sm_iald hC hK hG (by decide) rfl h26_4 d_Model_image_26 ?_
      obtain ⟨rfl, rfl⟩ := Prod.mk.inj (Option.some.inj hf)
      exact sm_iret hC hr hlk hG d_Model_image_27
    · have hf := sm_f h14_3 hf
      refine lv_iconst (v := -1) hx hb d_Model_image_17 (by decide) ?_
      refine lv_goto hx hb d_Model_image_18 rfl ?_
      obtain ⟨rfl, rfl⟩ := Prod.mk.inj (Option.some.inj hf)
      exact sm_iret hC hr hlk hG d_Model_image_27
abbrev w_Model_alter : List Cond := Cond.code y_Model_alter b_Model_alter 3 (some .boolean) :: sm_AW
abbrev rm_Model_alter : Room := { frames := 1, cells := 0, slots := 0, locals := 22 }
def j_Model_alter_29 (M : sm_M) (y1 : Int32) (y2 : Int32) (z0 : Int32) : Option (Int32 × sm_M) :=
sm_nm (sm_up M 68 0 z0) fun M29_2 =>
(if (M29_2 68 0) ≤ 0 then
sm_gd y1 1000 (
sm_nm (sm_up M29_2 86 (Int32.toNatClampNeg y1) y2) fun M47_5 =>
(some ((1 : Int32), M47_5)))
else
(some ((0 : Int32), M29_2)))
def j_Model_alter_24 (M : sm_M) (y1 : Int32) (y2 : Int32) : Option (Int32 × sm_M) :=
j_Model_alter_29 M y1 y2 (1 : Int32)
def f_Model_alter (M : sm_M) (a0 : Int32) (a1 : Int32) : Option (Int32 × sm_M) :=
(if a0 < 0 then
j_Model_alter_24 M a0 a1
else
(if (M 68 18) ≤ a0 then
j_Model_alter_24 M a0 a1
else
sm_b1 (f_Model_within a1 (0 : Int32) (255 : Int32)) fun r18_8 =>
(if r18_8 = 0 then
j_Model_alter_24 M a0 a1
else
j_Model_alter_29 M a0 a1 (0 : Int32))))
set_option maxHeartbeats 4000000 in
set_option maxRecDepth 100000 in
theorem jw_Model_alter_29 {p : Program} {l : Launch} {e : Env} {s : State} {m : MethodId} {args : Array Value} {below : List Frame} {meth : Method} {c : Code} {v : sm_V} {o : sm_O} {r : Int32} {M' : sm_M} (hC : CallFix p m c b_Model_alter 3 s args w_Model_alter R_Model) (hr : meth.sig.returnType = some .boolean) (hlk : meth.locks = false) (hK : sm_K v s) (M : sm_M) (y1 : Int32) (y2 : Int32) (z0 : Int32) {H : Heap} {locs : List Loc} {ls : Array Slot} (hG : sm_G v M o s H locs) (hl : lv_has ls 3 [(0, .ref (sm_a v 68)), (1, .int y1), (2, .int y2)]) (hf : j_Model_alter_29 M y1 y2 z0 = some (r, M')) : W p l e rm_Model_alter s m args below meth c H locs 0 0 (MQ below (sm_Qi v M' o r) args s 0 0 (sm_A v)) (F0 m 29 ls [.int z0, .ref (sm_a v 68)]) := by
  have hx := hC.1
  have hb := hC.2.1
  unfold j_Model_alter_29 at hf
  refine pf_Model_74 hC hK hG d_Model_alter_29 (fun M29_2 H locs eM29_2 hG => ?_)
  have hf := sm_of eM29_2 hf
  refine lv_aload_n hx hb d_Model_alter_32 rfl (lv_at hl 0 rfl) ?_
  refine gf_Model_74 hC hK hG d_Model_alter_33 ?_
  refine lv_if_le hx hb d_Model_alter_36 rfl (fun h36_3 => ?_) (fun h36_3 => ?_)
  · have hf := sm_t h36_3 hf
    refine lv_aload_n hx hb d_Model_alter_41 rfl (lv_at hl 0 rfl) ?_
    refine gf_Model_62 hC hK hG d_Model_alter_42 ?_
    refine lv_iload_n hx hb d_Model_alter_45 rfl (lv_at hl 1 rfl) ?_
    refine lv_iload_n hx hb d_Model_alter_46 rfl (lv_at hl 2 rfl) ?_
    obtain ⟨h47_4, hf⟩ := sm_of_gd hf
    refine sm_iast hC hK hG (by decide) rfl h47_4 d_Model_alter_47 (fun M47_5 H locs eM47_5 hG => ?_)
    have hf := sm_of eM47_5 hf
    refine lv_iconst (v := 1) hx hb d_Model_alter_48 (by decide) ?_
    obtain ⟨rfl, rfl⟩ := Prod.mk.inj (Option.some.inj hf)
    exact sm_zret hC hr rfl hlk hG d_Model_alter_49
  · have hf := sm_f h36_3 hf
    refine lv_iconst (v := 0) hx hb d_Model_alter_39 (by decide) ?_
    obtain ⟨rfl, rfl⟩ := Prod.mk.inj (Option.some.inj hf)
    exact sm_zret hC hr rfl hlk hG d_Model_alter_40
set_option maxHeartbeats 4000000 in
set_option maxRecDepth 100000 in
theorem jw_Model_alter_24 {p : Program} {l : Launch} {e : Env} {s : State} {m : MethodId} {args : Array Value} {below : List Frame} {meth : Method} {c : Code} {v : sm_V} {o : sm_O} {r : Int32} {M' : sm_M} (hC : CallFix p m c b_Model_alter 3 s args w_Model_alter R_Model) (hr : meth.sig.returnType = some .boolean) (hlk : meth.locks = false) (hK : sm_K v s) (M : sm_M) (y1 : Int32) (y2 : Int32) {H : Heap} {locs : List Loc} {ls : Array Slot} (hG : sm_G v M o s H locs) (hl : lv_has ls 3 [(0, .ref (sm_a v 68)), (1, .int y1), (2, .int y2)]) (hf : j_Model_alter_24 M y1 y2 = some (r, M')) : W p l e rm_Model_alter s m args below meth c H locs 0 0 (MQ below (sm_Qi v M' o r) args s 0 0 (sm_A v)) (F0 m 24 ls [.ref (sm_a v 68)]) := by
  have hx := hC.1
  have hb := hC.2.1
  unfold j_Model_alter_24 at hf
  refine lv_iconst (v := 1) hx hb d_Model_alter_24 (by decide) ?_
  refine lv_goto hx hb d_Model_alter_25 rfl ?_
  exact jw_Model_alter_29 hC hr hlk hK M y1 y2 (1 : Int32) hG hl hf
set_option maxHeartbeats 4000000 in
set_option maxRecDepth 100000 in
theorem c_Model_alter {l : Launch} {v : sm_V} {o : sm_O} {M : sm_M} {a0 : Int32} {a1 : Int32} {r : Int32} {M' : sm_M} (hf : f_Model_alter M a0 a1 = some (r, M')) : sm_Ci l y_Model_alter w_Model_alter rm_Model_alter v [.ref (sm_a v 68), .int a0, .int a1] M o r M' := by
  refine sm_met (cc := b_Model_alter) (nL := 3) (ret := some .boolean) (plainFor_of_name (by decide)) rfl (Nat.le_of_ble_eq_true rfl) (fun p e s m args below meth c hC hr hlk hK hG ls hl => ?_)
  have hx := hC.1
  have hb := hC.2.1
  have hl : lv_has ls 3 [(0, .ref (sm_a v 68)), (1, .int a0), (2, .int a1)] := hl
  unfold f_Model_alter at hf
  refine lv_aload_n hx hb d_Model_alter_0 rfl (lv_at hl 0 rfl) ?_
  refine lv_iload_n hx hb d_Model_alter_1 rfl (lv_at hl 1 rfl) ?_
  refine lv_if_lt hx hb d_Model_alter_2 rfl (fun h2_1 => ?_) (fun h2_1 => ?_)
  · have hf := sm_t h2_1 hf
    exact jw_Model_alter_24 hC hr hlk hK M a0 a1 hG hl hf
  · have hf := sm_f h2_1 hf
    refine lv_iload_n hx hb d_Model_alter_5 rfl (lv_at hl 1 rfl) ?_
    refine lv_aload_n hx hb d_Model_alter_6 rfl (lv_at hl 0 rfl) ?_
    refine gf_Model_122 hC hK hG d_Model_alter_7 ?_
    refine lv_icmp_ge hx hb d_Model_alter_10 rfl (fun h10_6 => ?_) (fun h10_6 => ?_)
    · have hf := sm_t h10_6 hf
      exact jw_Model_alter_24 hC hr hlk hK M a0 a1 hG hl hf
    · have hf := sm_f h10_6 hf
      refine lv_iload_n hx hb d_Model_alter_13 rfl (lv_at hl 2 rfl) ?_
      refine lv_iconst (v := 0) hx hb d_Model_alter_14 (by decide) ?_
      refine lv_sipush (v := 255) hx hb d_Model_alter_15 (by decide) ?_
      obtain ⟨r18_8, hc18_7, hf⟩ := sm_of_b1 hf
      refine ca_Model_82 hC hK hG (c_Model_within hc18_7) hl.1 ⟨Nat.le_of_ble_eq_true rfl, Nat.le_of_ble_eq_true rfl⟩ ⟨Nat.zero_le _, Nat.zero_le _⟩ (Nat.le_of_ble_eq_true rfl) d_Model_alter_18 ?_
      refine lv_if_ne hx hb d_Model_alter_21 rfl (fun h21_10 => ?_) (fun h21_10 => ?_)
      · have hf := sm_f h21_10 hf
        refine lv_iconst (v := 0) hx hb d_Model_alter_28 (by decide) ?_
        exact jw_Model_alter_29 hC hr hlk hK M a0 a1 (0 : Int32) hG hl hf
      · have hf := sm_t h21_10 hf
        exact jw_Model_alter_24 hC hr hlk hK M a0 a1 hG hl hf
abbrev w_Model_stretch : List Cond := Cond.code y_Model_stretch b_Model_stretch 5 (some .int) :: sm_AW
abbrev rm_Model_stretch : Room := { frames := 0, cells := 0, slots := 0, locals := 0 }
def g_Model_stretch_47 (w2 : Int64) (rec47 : sm_M → Int32 → Option (Int32 × sm_M)) (M : sm_M) (w4 : Int32) : Option (Int32 × sm_M) :=
(if 0 ≤ (lg_cmp (Int32.toInt64 w4) w2) then
sm_nm (sm_up M 68 18 (Int64.toInt32 w2)) fun M72_7 =>
(some (M72_7 68 18, M72_7))
else
sm_gd w4 1000 (
sm_nm (sm_up M 86 (Int32.toNatClampNeg w4) (0 : Int32)) fun M62_9 =>
rec47 M62_9 (w4 + (1 : Int32))))
def j_Model_stretch_29 (M : sm_M) (y2 : Int64) (z0 : Int32) : Option (Int32 × sm_M) :=
sm_nm (sm_up M 68 0 z0) fun M29_3 =>
(if (M29_3 68 0) ≤ 0 then
sm_nm (M29_3 68 18) fun x45_5 =>
sm_lp2 (g_Model_stretch_47 y2) 1100 M29_3 x45_5
else
(some ((0 : Int32), M29_3)))
def j_Model_stretch_24 (M : sm_M) (y2 : Int64) : Option (Int32 × sm_M) :=
j_Model_stretch_29 M y2 (1 : Int32)
def f_Model_stretch (M : sm_M) (a0 : Int32) : Option (Int32 × sm_M) :=
sm_nm ((Int32.toInt64 (M 68 18)) + (Int32.toInt64 a0)) fun x8_1 =>
(if (lg_cmp x8_1 (0 : Int64)) < 0 then
j_Model_stretch_24 M x8_1
else
(if (lg_cmp x8_1 (1000 : Int64)) ≤ 0 then
j_Model_stretch_29 M x8_1 (0 : Int32)
else
j_Model_stretch_24 M x8_1))
set_option maxHeartbeats 4000000 in
set_option maxRecDepth 100000 in
theorem lw_Model_stretch_47 {p : Program} {l : Launch} {e : Env} {s : State} {m : MethodId} {args : Array Value} {below : List Frame} {meth : Method} {c : Code} {v : sm_V} {o : sm_O} {r : Int32} {M' : sm_M} (hC : CallFix p m c b_Model_stretch 5 s args w_Model_stretch R_Model) (hr : meth.sig.returnType = some .int) (hlk : meth.locks = false) (hK : sm_K v s) (w2 : Int64) :
    ∀ (n : Nat) (M : sm_M) (w4 : Int32) (H : Heap) (locs : List Loc) (ls : Array Slot), sm_G v M o s H locs → lv_has ls 5 [(4, .int w4), (2, .long w2), (0, .ref (sm_a v 68))] → sm_lp2 (g_Model_stretch_47 w2) n M w4 = some (r, M') → W p l e rm_Model_stretch s m args below meth c H locs 0 0 (MQ below (sm_Qi v M' o r) args s 0 0 (sm_A v)) (F0 m 47 ls []) := by
  have hx := hC.1
  have hb := hC.2.1
  intro n
  induction n with
  | zero =>
    intro M w4 H locs ls hG hl hf
    cases hf
  | succ n ih =>
    intro M w4 H locs ls hG hl hf
    have hf : g_Model_stretch_47 w2 (sm_lp2 (g_Model_stretch_47 w2) n) M w4 = some (r, M') := hf
    unfold g_Model_stretch_47 at hf
    refine lv_iload hx hb d_Model_stretch_47 (lv_at hl 0 rfl) ?_
    refine lv_i2l hx hb d_Model_stretch_49 rfl ?_
    refine lv_lload_n hx hb d_Model_stretch_50 rfl (lv_at hl 1 rfl) ?_
    refine W.lcmp hx hb d_Model_stretch_51 ?_
    refine lv_if_ge hx hb d_Model_stretch_52 rfl (fun h52_6 => ?_) (fun h52_6 => ?_)
    · have hf := sm_t h52_6 hf
      refine lv_aload_n hx hb d_Model_stretch_69 rfl (lv_at hl 2 rfl) ?_
      refine lv_lload_n hx hb d_Model_stretch_70 rfl (lv_at hl 1 rfl) ?_
      refine lv_l2i hx hb d_Model_stretch_71 rfl ?_
      refine pf_Model_122 hC hK hG d_Model_stretch_72 (fun M72_7 H locs eM72_7 hG => ?_)
      have hf := sm_of eM72_7 hf
      refine lv_aload_n hx hb d_Model_stretch_75 rfl (lv_at hl 2 rfl) ?_
      refine gf_Model_122 hC hK hG d_Model_stretch_76 ?_
      obtain ⟨rfl, rfl⟩ := Prod.mk.inj (Option.some.inj hf)
      exact sm_iret hC hr hlk hG d_Model_stretch_79
    · have hf := sm_f h52_6 hf
      refine lv_aload_n hx hb d_Model_stretch_55 rfl (lv_at hl 2 rfl) ?_
      refine gf_Model_62 hC hK hG d_Model_stretch_56 ?_
      refine lv_iload hx hb d_Model_stretch_59 (lv_at hl 0 rfl) ?_
      refine lv_iconst (v := 0) hx hb d_Model_stretch_61 (by decide) ?_
      obtain ⟨h62_8, hf⟩ := sm_of_gd hf
      refine sm_iast hC hK hG (by decide) rfl h62_8 d_Model_stretch_62 (fun M62_9 H locs eM62_9 hG => ?_)
      have hf := sm_of eM62_9 hf
      refine lv_iinc (v := w4 + (1 : Int32)) (k := 0) hx hb d_Model_stretch_63 hl rfl rfl (Nat.le_of_ble_eq_true rfl) rfl (fun ls hl => ?_)
      have hl : lv_has ls 5 [(4, .int (w4 + (1 : Int32))), (2, .long w2), (0, .ref (sm_a v 68))] := hl
      refine lv_goto hx hb d_Model_stretch_66 rfl ?_
      exact ih _ _ _ _ ls hG hl hf
set_option maxHeartbeats 4000000 in
set_option maxRecDepth 100000 in
theorem jw_Model_stretch_29 {p : Program} {l : Launch} {e : Env} {s : State} {m : MethodId} {args : Array Value} {below : List Frame} {meth : Method} {c : Code} {v : sm_V} {o : sm_O} {r : Int32} {M' : sm_M} (hC : CallFix p m c b_Model_stretch 5 s args w_Model_stretch R_Model) (hr : meth.sig.returnType = some .int) (hlk : meth.locks = false) (hK : sm_K v s) (M : sm_M) (y2 : Int64) (z0 : Int32) {H : Heap} {locs : List Loc} {ls : Array Slot} (hG : sm_G v M o s H locs) (hl : lv_has ls 5 [(2, .long y2), (0, .ref (sm_a v 68))]) (hf : j_Model_stretch_29 M y2 z0 = some (r, M')) : W p l e rm_Model_stretch s m args below meth c H locs 0 0 (MQ below (sm_Qi v M' o r) args s 0 0 (sm_A v)) (F0 m 29 ls [.int z0, .ref (sm_a v 68)]) := by
  have hx := hC.1
  have hb := hC.2.1
  unfold j_Model_stretch_29 at hf
  refine pf_Model_74 hC hK hG d_Model_stretch_29 (fun M29_3 H locs eM29_3 hG => ?_)
  have hf := sm_of eM29_3 hf
  refine lv_aload_n hx hb d_Model_stretch_32 rfl (lv_at hl 1 rfl) ?_
  refine gf_Model_74 hC hK hG d_Model_stretch_33 ?_
  refine lv_if_le hx hb d_Model_stretch_36 rfl (fun h36_4 => ?_) (fun h36_4 => ?_)
  · have hf := sm_t h36_4 hf
    refine lv_aload_n hx hb d_Model_stretch_41 rfl (lv_at hl 1 rfl) ?_
    refine gf_Model_122 hC hK hG d_Model_stretch_42 ?_
    refine lv_topi (fun x45_5 ex45_5 => ?_)
    have hf := sm_of ex45_5 hf
    refine lv_istore hx hb d_Model_stretch_45 hl (Nat.le_of_ble_eq_true rfl) rfl (fun ls hl => ?_)
    have hl : lv_has ls 5 [(4, .int x45_5), (2, .long y2), (0, .ref (sm_a v 68))] := hl
    exact lw_Model_stretch_47 hC hr hlk hK y2 1100 _ _ _ _ ls hG hl hf
  · have hf := sm_f h36_4 hf
    refine lv_iconst (v := 0) hx hb d_Model_stretch_39 (by decide) ?_
    obtain ⟨rfl, rfl⟩ := Prod.mk.inj (Option.some.inj hf)
    exact sm_iret hC hr hlk hG d_Model_stretch_40
set_option maxHeartbeats 4000000 in
set_option maxRecDepth 100000 in
theorem jw_Model_stretch_24 {p : Program} {l : Launch} {e : Env} {s : State} {m : MethodId} {args : Array Value} {below : List Frame} {meth : Method} {c : Code} {v : sm_V} {o : sm_O} {r : Int32} {M' : sm_M} (hC : CallFix p m c b_Model_stretch 5 s args w_Model_stretch R_Model) (hr : meth.sig.returnType = some .int) (hlk : meth.locks = false) (hK : sm_K v s) (M : sm_M) (y2 : Int64) {H : Heap} {locs : List Loc} {ls : Array Slot} (hG : sm_G v M o s H locs) (hl : lv_has ls 5 [(2, .long y2), (0, .ref (sm_a v 68))]) (hf : j_Model_stretch_24 M y2 = some (r, M')) : W p l e rm_Model_stretch s m args below meth c H locs 0 0 (MQ below (sm_Qi v M' o r) args s 0 0 (sm_A v)) (F0 m 24 ls [.ref (sm_a v 68)]) := by
  have hx := hC.1
  have hb := hC.2.1
  unfold j_Model_stretch_24 at hf
  refine lv_iconst (v := 1) hx hb d_Model_stretch_24 (by decide) ?_
  refine lv_goto hx hb d_Model_stretch_25 rfl ?_
  exact jw_Model_stretch_29 hC hr hlk hK M y2 (1 : Int32) hG hl hf
set_option maxHeartbeats 4000000 in
set_option maxRecDepth 100000 in
theorem c_Model_stretch {l : Launch} {v : sm_V} {o : sm_O} {M : sm_M} {a0 : Int32} {r : Int32} {M' : sm_M} (hf : f_Model_stretch M a0 = some (r, M')) : sm_Ci l y_Model_stretch w_Model_stretch rm_Model_stretch v [.ref (sm_a v 68), .int a0] M o r M' := by
  refine sm_met (cc := b_Model_stretch) (nL := 5) (ret := some .int) (plainFor_of_name (by decide)) rfl (Nat.le_of_ble_eq_true rfl) (fun p e s m args below meth c hC hr hlk hK hG ls hl => ?_)
  have hx := hC.1
  have hb := hC.2.1
  have hl : lv_has ls 5 [(0, .ref (sm_a v 68)), (1, .int a0)] := hl
  unfold f_Model_stretch at hf
  refine lv_aload_n hx hb d_Model_stretch_0 rfl (lv_at hl 0 rfl) ?_
  refine gf_Model_122 hC hK hG d_Model_stretch_1 ?_
  refine lv_i2l hx hb d_Model_stretch_4 rfl ?_
  refine lv_iload_n hx hb d_Model_stretch_5 rfl (lv_at hl 1 rfl) ?_
  refine lv_i2l hx hb d_Model_stretch_6 rfl ?_
  refine lv_ladd hx hb d_Model_stretch_7 ?_
  refine lv_topl (fun x8_1 ex8_1 => ?_)
  have hf := sm_of ex8_1 hf
  refine lv_lstore_n hx hb d_Model_stretch_8 rfl hl (Nat.le_of_ble_eq_true rfl) rfl (fun ls hl => ?_)
  have hl : lv_has ls 5 [(2, .long x8_1), (0, .ref (sm_a v 68)), (1, .int a0)] := hl
  have hl : lv_has ls 5 [(2, .long x8_1), (0, .ref (sm_a v 68))] := lv_sub hl [0, 1] rfl
  refine lv_aload_n hx hb d_Model_stretch_9 rfl (lv_at hl 1 rfl) ?_
  refine lv_lload_n hx hb d_Model_stretch_10 rfl (lv_at hl 0 rfl) ?_
  refine lv_lconst (v := 0) hx hb d_Model_stretch_11 (by decide) ?_
  refine W.lcmp hx hb d_Model_stretch_12 ?_
  refine lv_if_lt hx hb d_Model_stretch_13 rfl (fun h13_2 => ?_) (fun h13_2 => ?_)
  · have hf := sm_t h13_2 hf
    exact jw_Model_stretch_24 hC hr hlk hK M x8_1 hG hl hf
  · have hf := sm_f h13_2 hf
    refine lv_lload_n hx hb d_Model_stretch_16 rfl (lv_at hl 0 rfl) ?_
    refine lv_ldc2 hx hb hC.2.2.2.1 (hC.2.2.2.2 _ (List.mem_cons_of_mem _ aw_881)) d_Model_stretch_17 ?_
    refine W.lcmp hx hb d_Model_stretch_20 ?_
    refine lv_if_le hx hb d_Model_stretch_21 rfl (fun h21_10 => ?_) (fun h21_10 => ?_)
    · have hf := sm_t h21_10 hf
      refine lv_iconst (v := 0) hx hb d_Model_stretch_28 (by decide) ?_
      exact jw_Model_stretch_29 hC hr hlk hK M x8_1 (0 : Int32) hG hl hf
    · have hf := sm_f h21_10 hf
      exact jw_Model_stretch_24 hC hr hlk hK M x8_1 hG hl hf
abbrev w_Model_wordAt : List Cond := Cond.code y_Model_wordAt b_Model_wordAt 2 (some .int) :: sm_AW
abbrev rm_Model_wordAt : Room := { frames := 0, cells := 0, slots := 0, locals := 0 }
def f_Model_wordAt (M : sm_M) (a0 : Int32) : Option (Int32) :=
sm_gd ((4 : Int32) * a0) 1000 (
sm_gd (((4 : Int32) * a0) + (1 : Int32)) 1000 (
sm_gd (((4 : Int32) * a0) + (2 : Int32)) 1000 (
sm_gd (((4 : Int32) * a0) + (3 : Int32)) 1000 (
(some ((((M 86 (Int32.toNatClampNeg ((4 : Int32) * a0))) ||| ((M 86 (Int32.toNatClampNeg (((4 : Int32) * a0) + (1 : Int32)))) <<< ((8 : Int32) &&& 31))) ||| ((M 86 (Int32.toNatClampNeg (((4 : Int32) * a0) + (2 : Int32)))) <<< ((16 : Int32) &&& 31))) ||| ((M 86 (Int32.toNatClampNeg (((4 : Int32) * a0) + (3 : Int32)))) <<< ((24 : Int32) &&& 31))))))))
set_option maxHeartbeats 4000000 in
set_option maxRecDepth 100000 in
theorem c_Model_wordAt {l : Launch} {v : sm_V} {o : sm_O} {M : sm_M} {a0 : Int32} {r : Int32} (hf : f_Model_wordAt M a0 = some r) : sm_Ri l y_Model_wordAt w_Model_wordAt rm_Model_wordAt v [.ref (sm_a v 68), .int a0] M o r  := by
  refine sm_met (cc := b_Model_wordAt) (nL := 2) (ret := some .int) (plainFor_of_name (by decide)) rfl (Nat.le_of_ble_eq_true rfl) (fun p e s m args below meth c hC hr hlk hK hG ls hl => ?_)
  have hx := hC.1
  have hb := hC.2.1
  have hl : lv_has ls 2 [(0, .ref (sm_a v 68)), (1, .int a0)] := hl
  unfold f_Model_wordAt at hf
  refine lv_aload_n hx hb d_Model_wordAt_0 rfl (lv_at hl 0 rfl) ?_
  refine gf_Model_62 hC hK hG d_Model_wordAt_1 ?_
  refine lv_iconst (v := 4) hx hb d_Model_wordAt_4 (by decide) ?_
  refine lv_iload_n hx hb d_Model_wordAt_5 rfl (lv_at hl 1 rfl) ?_
  refine lv_imul hx hb d_Model_wordAt_6 ?_
  obtain ⟨h7_1, hf⟩ := sm_of_gd hf
  refine sm_iald hC hK hG (by decide) rfl h7_1 d_Model_wordAt_7 ?_
  refine lv_aload_n hx hb d_Model_wordAt_8 rfl (lv_at hl 0 rfl) ?_
  refine gf_Model_62 hC hK hG d_Model_wordAt_9 ?_
  refine lv_iconst (v := 4) hx hb d_Model_wordAt_12 (by decide) ?_
  refine lv_iload_n hx hb d_Model_wordAt_13 rfl (lv_at hl 1 rfl) ?_
  refine lv_imul hx hb d_Model_wordAt_14 ?_
  refine lv_iconst (v := 1) hx hb d_Model_wordAt_15 (by decide) ?_
  refine lv_iadd hx hb d_Model_wordAt_16 ?_
  obtain ⟨h17_2, hf⟩ := sm_of_gd hf
  refine sm_iald hC hK hG (by decide) rfl h17_2 d_Model_wordAt_17 ?_
  refine lv_bipush (v := 8) hx hb d_Model_wordAt_18 (by decide) ?_
  refine lv_ishl hx hb d_Model_wordAt_20 ?_
  refine lv_ior hx hb d_Model_wordAt_21 ?_
  refine lv_aload_n hx hb d_Model_wordAt_22 rfl (lv_at hl 0 rfl) ?_
  refine gf_Model_62 hC hK hG d_Model_wordAt_23 ?_
  refine lv_iconst (v := 4) hx hb d_Model_wordAt_26 (by decide) ?_
  refine lv_iload_n hx hb d_Model_wordAt_27 rfl (lv_at hl 1 rfl) ?_
  refine lv_imul hx hb d_Model_wordAt_28 ?_
  refine lv_iconst (v := 2) hx hb d_Model_wordAt_29 (by decide) ?_
  refine lv_iadd hx hb d_Model_wordAt_30 ?_
  obtain ⟨h31_3, hf⟩ := sm_of_gd hf
  refine sm_iald hC hK hG (by decide) rfl h31_3 d_Model_wordAt_31 ?_
  refine lv_bipush (v := 16) hx hb d_Model_wordAt_32 (by decide) ?_
  refine lv_ishl hx hb d_Model_wordAt_34 ?_
  refine lv_ior hx hb d_Model_wordAt_35 ?_
  refine lv_aload_n hx hb d_Model_wordAt_36 rfl (lv_at hl 0 rfl) ?_
  refine gf_Model_62 hC hK hG d_Model_wordAt_37 ?_
  refine lv_iconst (v := 4) hx hb d_Model_wordAt_40 (by decide) ?_
  refine lv_iload_n hx hb d_Model_wordAt_41 rfl (lv_at hl 1 rfl) ?_
  refine lv_imul hx hb d_Model_wordAt_42 ?_
  refine lv_iconst (v := 3) hx hb d_Model_wordAt_43 (by decide) ?_
  refine lv_iadd hx hb d_Model_wordAt_44 ?_
  obtain ⟨h45_4, hf⟩ := sm_of_gd hf
  refine sm_iald hC hK hG (by decide) rfl h45_4 d_Model_wordAt_45 ?_
  refine lv_bipush (v := 24) hx hb d_Model_wordAt_46 (by decide) ?_
  refine lv_ishl hx hb d_Model_wordAt_48 ?_
  refine lv_ior hx hb d_Model_wordAt_49 ?_
  obtain rfl := Option.some.inj hf
  exact sm_iret0 hC hr hlk d_Model_wordAt_50
theorem ca_Model_142 {p : Program} {l : Launch} {e : Env} {R : Room} {s : State} {m : MethodId} {args : Array Value} {below : List Frame} {meth : Method} {c : Code} {H : Heap} {locs : List Loc} {cells slots : Nat} {Q : State → Prop} {cc : ByteArray} {nL pc : Nat} {ls : Array Slot} {rest : List Value} {w0 : Cond} {v : sm_V} {M : sm_M} {o : sm_O} {x0 : Int32} {r : Int32} (hC : CallFix p m c cc nL s args (w0 :: sm_AW) R_Model) (hK : sm_K v s) (hG : sm_G v M o s H locs) (hM : sm_Ri l y_Model_wordAt w_Model_wordAt rm_Model_wordAt v [.ref (sm_a v 68), .int x0] M o r) (hsz : ls.size = nL) (hR : rm_Model_wordAt.frames + 1 ≤ R.frames ∧ 8 + (2 + 11) + rm_Model_wordAt.locals ≤ R.locals) (hcs : cells + 0 ≤ R.cells ∧ slots + 0 ≤ R.slots) (hW : (rest.map fun v => v.category).sum ≤ 8) (hdg : decode cc pc = .ok (.invokevirtual 142, 3))
    (kk : W p l e R s m args below meth c H locs cells slots Q (F0 m (pc + 3) ls (.int r :: rest))) : W p l e R s m args below meth c H locs cells slots Q (F0 m pc ls (.int x0 :: .ref (sm_a v 68) :: rest)) :=
  sm_calli0 (va_runV (C := R_Model) (As := [.int x0]) (rest := rest) hC hM (cwV 1 hC.2.2.2.2 (sm_good (sm_inV aw_893 aw_895 as_39 aw_7 aw_896)) rfl rfl rfl (by decide +kernel) hR) (sm_preV hK hG (by decide) rfl rfl) rfl rfl hsz rfl (lv_room hW) hdg hcs) kk
abbrev w_Model_isGood : List Cond := Cond.code y_Model_isGood b_Model_isGood 5 (some .boolean) :: sm_AW
abbrev rm_Model_isGood : Room := { frames := 1, cells := 0, slots := 0, locals := 22 }
def g_Model_isGood_285 (M : sm_M) (w2 : Int32) (rec285 : Int32 → Int32 → Option (Int32)) (w4 : Int32) (w3 : Int32) : Option (Int32) :=
(if (8 : Int32) ≤ w4 then
(if w2 = w3 then
(some (1 : Int32))
else
(some (0 : Int32)))
else
sm_b1 (f_Model_wordAt M w4) fun r296_62 =>
sm_nm (w3 + r296_62) fun x300_64 =>
rec285 (w4 + (1 : Int32)) x300_64)
def f_Model_isGood (M : sm_M) (a0 : Int32) : Option (Int32) :=
(if (((4 : Int32) * a0) + (4 : Int32)) ≤ (M 68 18) then
sm_b1 (f_Model_wordAt M a0) fun r16_3 =>
(if a0 = 0 then
(if r16_3 = (1263422796 : Int32) then
(some (1 : Int32))
else
(some (0 : Int32)))
else
(if a0 = 1 then
(if (r16_3 - r16_3 / (4 : Int32) * (4 : Int32)) = 0 then
sm_b1 (f_Model_wordAt M (2 : Int32)) fun r89_10 =>
(if r16_3 < r89_10 then
(some (0 : Int32))
else
sm_b1 (f_Model_wordAt M (2 : Int32)) fun r99_14 =>
sm_b1 (f_Model_wordAt M (3 : Int32)) fun r105_17 =>
(if 0 ≤ (lg_cmp (Int32.toInt64 r16_3) ((Int32.toInt64 r99_14) + (Int32.toInt64 r105_17))) then
(some (0 : Int32))
else
(some (1 : Int32))))
else
(some (0 : Int32)))
else
(if a0 = 2 then
(if (r16_3 - r16_3 / (4 : Int32) * (4 : Int32)) = 0 then
(if r16_3 < 0 then
(some (0 : Int32))
else
(some (1 : Int32)))
else
(some (0 : Int32)))
else
(if a0 = 3 then
(if (r16_3 - r16_3 / (4 : Int32) * (4 : Int32)) = 0 then
sm_b1 (f_Model_within r16_3 (4 : Int32) (4096 : Int32)) fun r147_26 =>
(if r147_26 = 0 then
(some (0 : Int32))
else
sm_b1 (f_Model_wordAt M (2 : Int32)) fun r155_30 =>
(if 0 < (lg_cmp (((Int32.toInt64 r155_30) + (Int32.toInt64 r16_3)) - (1 : Int64)) (2147483647 : Int64)) then
(some (0 : Int32))
else
(some (1 : Int32))))
else
(some (0 : Int32)))
else
(if a0 = 4 then
(if r16_3 = (36 : Int32) then
(some (1 : Int32))
else
(some (0 : Int32)))
else
(if a0 = 5 then
(if (r16_3 - r16_3 / (64 : Int32) * (64 : Int32)) = 0 then
sm_b1 (f_Model_wordAt M (2 : Int32)) fun r200_38 =>
sm_b1 (f_Model_wordAt M (3 : Int32)) fun r206_41 =>
(if (lg_cmp (Int32.toInt64 r16_3) ((Int32.toInt64 r200_38) + (Int32.toInt64 r206_41))) < 0 then
(some (0 : Int32))
else
(some (1 : Int32)))
else
(some (0 : Int32)))
else
(if a0 = 6 then
(if (r16_3 - r16_3 / (4 : Int32) * (4 : Int32)) = 0 then
sm_b1 (f_Model_within r16_3 (0 : Int32) (4096 : Int32)) fun r232_47 =>
(if r232_47 = 0 then
(some (0 : Int32))
else
sm_b1 (f_Model_wordAt M (5 : Int32)) fun r240_51 =>
(if 0 < (lg_cmp (((Int32.toInt64 r240_51) + (Int32.toInt64 r16_3)) - (1 : Int64)) (2147483647 : Int64)) then
(some (0 : Int32))
else
(some (1 : Int32))))
else
(some (0 : Int32)))
else
(if a0 = 7 then
sm_b1 (f_Model_wordAt M (3 : Int32)) fun r267_56 =>
(if r16_3 = ((36 : Int32) + r267_56) then
(some (1 : Int32))
else
(some (0 : Int32)))
else
sm_lp2 (g_Model_isGood_285 M r16_3) 1100 (0 : Int32) (0 : Int32)))))))))
else
(some (0 : Int32)))
set_option maxHeartbeats 4000000 in
set_option maxRecDepth 100000 in
theorem lw_Model_isGood_285 {p : Program} {l : Launch} {e : Env} {s : State} {m : MethodId} {args : Array Value} {below : List Frame} {meth : Method} {c : Code} {v : sm_V} {o : sm_O} {r : Int32} (hC : CallFix p m c b_Model_isGood 5 s args w_Model_isGood R_Model) (hr : meth.sig.returnType = some .boolean) (hlk : meth.locks = false) (hK : sm_K v s) (M : sm_M) (w2 : Int32) (hG : sm_G v M o s s.heap []) :
    ∀ (n : Nat) (w4 : Int32) (w3 : Int32) (ls : Array Slot), lv_has ls 5 [(4, .int w4), (3, .int w3), (2, .int w2), (0, .ref (sm_a v 68))] → sm_lp2 (g_Model_isGood_285 M w2) n w4 w3 = some r → W p l e rm_Model_isGood s m args below meth c s.heap [] 0 0 (MQ below (sm_Qi0 r) args s 0 0 (fun _ => False)) (F0 m 285 ls []) := by
  have hx := hC.1
  have hb := hC.2.1
  intro n
  induction n with
  | zero =>
    intro w4 w3 ls hl hf
    cases hf
  | succ n ih =>
    intro w4 w3 ls hl hf
    have hf : g_Model_isGood_285 M w2 (sm_lp2 (g_Model_isGood_285 M w2) n) w4 w3 = some r := hf
    unfold g_Model_isGood_285 at hf
    refine lv_iload hx hb d_Model_isGood_285 (lv_at hl 0 rfl) ?_
    refine lv_bipush (v := 8) hx hb d_Model_isGood_287 (by decide) ?_
    refine lv_icmp_ge hx hb d_Model_isGood_289 rfl (fun h289_59 => ?_) (fun h289_59 => ?_)
    · have hf := sm_t h289_59 hf
      refine lv_iload_n hx hb d_Model_isGood_307 rfl (lv_at hl 2 rfl) ?_
      refine lv_iload_n hx hb d_Model_isGood_308 rfl (lv_at hl 1 rfl) ?_
      refine lv_icmp_ne hx hb d_Model_isGood_309 rfl (fun h309_60 => ?_) (fun h309_60 => ?_)
      · have hf := sm_f h309_60 hf
        refine lv_iconst (v := 0) hx hb d_Model_isGood_316 (by decide) ?_
        obtain rfl := Option.some.inj hf
        exact sm_zret0 hC hr rfl hlk d_Model_isGood_317
      · have hf := sm_t h309_60 hf
        refine lv_iconst (v := 1) hx hb d_Model_isGood_312 (by decide) ?_
        refine lv_goto hx hb d_Model_isGood_313 rfl ?_
        obtain rfl := Option.some.inj hf
        exact sm_zret0 hC hr rfl hlk d_Model_isGood_317
    · have hf := sm_f h289_59 hf
      refine lv_iload_n hx hb d_Model_isGood_292 rfl (lv_at hl 1 rfl) ?_
      refine lv_aload_n hx hb d_Model_isGood_293 rfl (lv_at hl 3 rfl) ?_
      refine lv_iload hx hb d_Model_isGood_294 (lv_at hl 0 rfl) ?_
      obtain ⟨r296_62, hc296_61, hf⟩ := sm_of_b1 hf
      refine ca_Model_142 hC hK hG (c_Model_wordAt hc296_61) hl.1 ⟨Nat.le_of_ble_eq_true rfl, Nat.le_of_ble_eq_true rfl⟩ ⟨Nat.zero_le _, Nat.zero_le _⟩ (Nat.le_of_ble_eq_true rfl) d_Model_isGood_296 ?_
      refine lv_iadd hx hb d_Model_isGood_299 ?_
      refine lv_topi (fun x300_64 ex300_64 => ?_)
      have hf := sm_of ex300_64 hf
      refine lv_istore_n hx hb d_Model_isGood_300 rfl hl (Nat.le_of_ble_eq_true rfl) rfl (fun ls hl => ?_)
      have hl : lv_has ls 5 [(3, .int x300_64), (4, .int w4), (2, .int w2), (0, .ref (sm_a v 68))] := hl
      refine lv_iinc (v := w4 + (1 : Int32)) (k := 1) hx hb d_Model_isGood_301 hl rfl rfl (Nat.le_of_ble_eq_true rfl) rfl (fun ls hl => ?_)
      have hl : lv_has ls 5 [(4, .int (w4 + (1 : Int32))), (3, .int x300_64), (2, .int w2), (0, .ref (sm_a v 68))] := hl
      refine lv_goto hx hb d_Model_isGood_304 rfl ?_
      exact ih _ _ ls hl hf
set_option maxHeartbeats 4000000 in
set_option maxRecDepth 100000 in
theorem c_Model_isGood {l : Launch} {v : sm_V} {o : sm_O} {M : sm_M} {a0 : Int32} {r : Int32} (hf : f_Model_isGood M a0 = some r) : sm_Ri l y_Model_isGood w_Model_isGood rm_Model_isGood v [.ref (sm_a v 68), .int a0] M o r  := by
  refine sm_met (cc := b_Model_isGood) (nL := 5) (ret := some .boolean) (plainFor_of_name (by decide)) rfl (Nat.le_of_ble_eq_true rfl) (fun p e s m args below meth c hC hr hlk hK hG ls hl => ?_)
  have hx := hC.1
  have hb := hC.2.1
  have hl : lv_has ls 5 [(0, .ref (sm_a v 68)), (1, .int a0)] := hl
  unfold f_Model_isGood at hf
  refine lv_iconst (v := 4) hx hb d_Model_isGood_0 (by decide) ?_
  refine lv_iload_n hx hb d_Model_isGood_1 rfl (lv_at hl 1 rfl) ?_
  refine lv_imul hx hb d_Model_isGood_2 ?_
  refine lv_iconst (v := 4) hx hb d_Model_isGood_3 (by decide) ?_
  refine lv_iadd hx hb d_Model_isGood_4 ?_
  refine lv_aload_n hx hb d_Model_isGood_5 rfl (lv_at hl 0 rfl) ?_
  refine gf_Model_122 hC hK hG d_Model_isGood_6 ?_
  refine lv_icmp_le hx hb d_Model_isGood_9 rfl (fun h9_1 => ?_) (fun h9_1 => ?_)
  · have hf := sm_t h9_1 hf
    refine lv_aload_n hx hb d_Model_isGood_14 rfl (lv_at hl 0 rfl) ?_
    refine lv_iload_n hx hb d_Model_isGood_15 rfl (lv_at hl 1 rfl) ?_
    obtain ⟨r16_3, hc16_2, hf⟩ := sm_of_b1 hf
    refine ca_Model_142 hC hK hG (c_Model_wordAt hc16_2) hl.1 ⟨Nat.le_of_ble_eq_true rfl, Nat.le_of_ble_eq_true rfl⟩ ⟨Nat.zero_le _, Nat.zero_le _⟩ (Nat.le_of_ble_eq_true rfl) d_Model_isGood_16 ?_
    refine lv_istore_n hx hb d_Model_isGood_19 rfl hl (Nat.le_of_ble_eq_true rfl) rfl (fun ls hl => ?_)
    have hl : lv_has ls 5 [(2, .int r16_3), (0, .ref (sm_a v 68)), (1, .int a0)] := hl
    refine lv_iload_n hx hb d_Model_isGood_20 rfl (lv_at hl 2 rfl) ?_
    by_cases h21_5 : a0 = 0
    · have hf := sm_t h21_5 hf
      refine lv_tableIn (tgt := 68) hx hb d_Model_isGood_21 (by rw [h21_5]; decide) (by rw [h21_5]; decide) (by rw [h21_5]; rfl) rfl ?_
      refine lv_iload_n hx hb d_Model_isGood_68 rfl (lv_at hl 0 rfl) ?_
      refine lv_ldc hx hb hC.2.2.2.1 (hC.2.2.2.2 _ (List.mem_cons_of_mem _ aw_864)) d_Model_isGood_69 ?_
      refine lv_icmp_ne hx hb d_Model_isGood_71 rfl (fun h71_6 => ?_) (fun h71_6 => ?_)
      · have hf := sm_f h71_6 hf
        refine lv_iconst (v := 0) hx hb d_Model_isGood_78 (by decide) ?_
        obtain rfl := Option.some.inj hf
        exact sm_zret0 hC hr rfl hlk d_Model_isGood_79
      · have hf := sm_t h71_6 hf
        refine lv_iconst (v := 1) hx hb d_Model_isGood_74 (by decide) ?_
        refine lv_goto hx hb d_Model_isGood_75 rfl ?_
        obtain rfl := Option.some.inj hf
        exact sm_zret0 hC hr rfl hlk d_Model_isGood_79
    have hf := sm_f h21_5 hf
    by_cases h21_7 : a0 = 1
    · have hf := sm_t h21_7 hf
      refine lv_tableIn (tgt := 80) hx hb d_Model_isGood_21 (by rw [h21_7]; decide) (by rw [h21_7]; decide) (by rw [h21_7]; rfl) rfl ?_
      refine lv_iload_n hx hb d_Model_isGood_80 rfl (lv_at hl 0 rfl) ?_
      refine lv_iconst (v := 4) hx hb d_Model_isGood_81 (by decide) ?_
      refine lv_irem hx hb d_Model_isGood_82 (by decide) ?_
      refine lv_if_ne hx hb d_Model_isGood_83 rfl (fun h83_8 => ?_) (fun h83_8 => ?_)
      · have hf := sm_f h83_8 hf
        refine lv_iconst (v := 0) hx hb d_Model_isGood_118 (by decide) ?_
        obtain rfl := Option.some.inj hf
        exact sm_zret0 hC hr rfl hlk d_Model_isGood_119
      · have hf := sm_t h83_8 hf
        refine lv_iload_n hx hb d_Model_isGood_86 rfl (lv_at hl 0 rfl) ?_
        refine lv_aload_n hx hb d_Model_isGood_87 rfl (lv_at hl 1 rfl) ?_
        refine lv_iconst (v := 2) hx hb d_Model_isGood_88 (by decide) ?_
        obtain ⟨r89_10, hc89_9, hf⟩ := sm_of_b1 hf
        refine ca_Model_142 hC hK hG (c_Model_wordAt hc89_9) hl.1 ⟨Nat.le_of_ble_eq_true rfl, Nat.le_of_ble_eq_true rfl⟩ ⟨Nat.zero_le _, Nat.zero_le _⟩ (Nat.le_of_ble_eq_true rfl) d_Model_isGood_89 ?_
        refine lv_icmp_lt hx hb d_Model_isGood_92 rfl (fun h92_12 => ?_) (fun h92_12 => ?_)
        · have hf := sm_t h92_12 hf
          refine lv_iconst (v := 0) hx hb d_Model_isGood_118 (by decide) ?_
          obtain rfl := Option.some.inj hf
          exact sm_zret0 hC hr rfl hlk d_Model_isGood_119
        · have hf := sm_f h92_12 hf
          refine lv_iload_n hx hb d_Model_isGood_95 rfl (lv_at hl 0 rfl) ?_
          refine lv_i2l hx hb d_Model_isGood_96 rfl ?_
          refine lv_aload_n hx hb d_Model_isGood_97 rfl (lv_at hl 1 rfl) ?_
          refine lv_iconst (v := 2) hx hb d_Model_isGood_98 (by decide) ?_
          obtain ⟨r99_14, hc99_13, hf⟩ := sm_of_b1 hf
          refine ca_Model_142 hC hK hG (c_Model_wordAt hc99_13) hl.1 ⟨Nat.le_of_ble_eq_true rfl, Nat.le_of_ble_eq_true rfl⟩ ⟨Nat.zero_le _, Nat.zero_le _⟩ (Nat.le_of_ble_eq_true rfl) d_Model_isGood_99 ?_
          refine lv_i2l hx hb d_Model_isGood_102 rfl ?_
          refine lv_aload_n hx hb d_Model_isGood_103 rfl (lv_at hl 1 rfl) ?_
          refine lv_iconst (v := 3) hx hb d_Model_isGood_104 (by decide) ?_
          obtain ⟨r105_17, hc105_16, hf⟩ := sm_of_b1 hf
          refine ca_Model_142 hC hK hG (c_Model_wordAt hc105_16) hl.1 ⟨Nat.le_of_ble_eq_true rfl, Nat.le_of_ble_eq_true rfl⟩ ⟨Nat.zero_le _, Nat.zero_le _⟩ (Nat.le_of_ble_eq_true rfl) d_Model_isGood_105 ?_
          refine lv_i2l hx hb d_Model_isGood_108 rfl ?_
          refine lv_ladd hx hb d_Model_isGood_109 ?_
          refine W.lcmp hx hb d_Model_isGood_110 ?_
          refine lv_if_ge hx hb d_Model_isGood_111 rfl (fun h111_19 => ?_) (fun h111_19 => ?_)
          · have hf := sm_t h111_19 hf
            refine lv_iconst (v := 0) hx hb d_Model_isGood_118 (by decide) ?_
            obtain rfl := Option.some.inj hf
            exact sm_zret0 hC hr rfl hlk d_Model_isGood_119
          · have hf := sm_f h111_19 hf
            refine lv_iconst (v := 1) hx hb d_Model_isGood_114 (by decide) ?_
            refine lv_goto hx hb d_Model_isGood_115 rfl ?_
            obtain rfl := Option.some.inj hf
            exact sm_zret0 hC hr rfl hlk d_Model_isGood_119
    have hf := sm_f h21_7 hf
    by_cases h21_20 : a0 = 2
    · have hf := sm_t h21_20 hf
      refine lv_tableIn (tgt := 120) hx hb d_Model_isGood_21 (by rw [h21_20]; decide) (by rw [h21_20]; decide) (by rw [h21_20]; rfl) rfl ?_
      refine lv_iload_n hx hb d_Model_isGood_120 rfl (lv_at hl 0 rfl) ?_
      refine lv_iconst (v := 4) hx hb d_Model_isGood_121 (by decide) ?_
      refine lv_irem hx hb d_Model_isGood_122 (by decide) ?_
      refine lv_if_ne hx hb d_Model_isGood_123 rfl (fun h123_21 => ?_) (fun h123_21 => ?_)
      · have hf := sm_f h123_21 hf
        refine lv_iconst (v := 0) hx hb d_Model_isGood_134 (by decide) ?_
        obtain rfl := Option.some.inj hf
        exact sm_zret0 hC hr rfl hlk d_Model_isGood_135
      · have hf := sm_t h123_21 hf
        refine lv_iload_n hx hb d_Model_isGood_126 rfl (lv_at hl 0 rfl) ?_
        refine lv_if_lt hx hb d_Model_isGood_127 rfl (fun h127_22 => ?_) (fun h127_22 => ?_)
        · have hf := sm_t h127_22 hf
          refine lv_iconst (v := 0) hx hb d_Model_isGood_134 (by decide) ?_
          obtain rfl := Option.some.inj hf
          exact sm_zret0 hC hr rfl hlk d_Model_isGood_135
        · have hf := sm_f h127_22 hf
          refine lv_iconst (v := 1) hx hb d_Model_isGood_130 (by decide) ?_
          refine lv_goto hx hb d_Model_isGood_131 rfl ?_
          obtain rfl := Option.some.inj hf
          exact sm_zret0 hC hr rfl hlk d_Model_isGood_135
    have hf := sm_f h21_20 hf
    by_cases h21_23 : a0 = 3
    · have hf := sm_t h21_23 hf
      refine lv_tableIn (tgt := 136) hx hb d_Model_isGood_21 (by rw [h21_23]; decide) (by rw [h21_23]; decide) (by rw [h21_23]; rfl) rfl ?_
      refine lv_iload_n hx hb d_Model_isGood_136 rfl (lv_at hl 0 rfl) ?_
      refine lv_iconst (v := 4) hx hb d_Model_isGood_137 (by decide) ?_
      refine lv_irem hx hb d_Model_isGood_138 (by decide) ?_
      refine lv_if_ne hx hb d_Model_isGood_139 rfl (fun h139_24 => ?_) (fun h139_24 => ?_)
      · have hf := sm_f h139_24 hf
        refine lv_iconst (v := 0) hx hb d_Model_isGood_175 (by decide) ?_
        obtain rfl := Option.some.inj hf
        exact sm_zret0 hC hr rfl hlk d_Model_isGood_176
      · have hf := sm_t h139_24 hf
        refine lv_iload_n hx hb d_Model_isGood_142 rfl (lv_at hl 0 rfl) ?_
        refine lv_iconst (v := 4) hx hb d_Model_isGood_143 (by decide) ?_
        refine lv_sipush (v := 4096) hx hb d_Model_isGood_144 (by decide) ?_
        obtain ⟨r147_26, hc147_25, hf⟩ := sm_of_b1 hf
        refine ca_Model_82 hC hK hG (c_Model_within hc147_25) hl.1 ⟨Nat.le_of_ble_eq_true rfl, Nat.le_of_ble_eq_true rfl⟩ ⟨Nat.zero_le _, Nat.zero_le _⟩ (Nat.le_of_ble_eq_true rfl) d_Model_isGood_147 ?_
        refine lv_if_eq hx hb d_Model_isGood_150 rfl (fun h150_28 => ?_) (fun h150_28 => ?_)
        · have hf := sm_t h150_28 hf
          refine lv_iconst (v := 0) hx hb d_Model_isGood_175 (by decide) ?_
          obtain rfl := Option.some.inj hf
          exact sm_zret0 hC hr rfl hlk d_Model_isGood_176
        · have hf := sm_f h150_28 hf
          refine lv_aload_n hx hb d_Model_isGood_153 rfl (lv_at hl 1 rfl) ?_
          refine lv_iconst (v := 2) hx hb d_Model_isGood_154 (by decide) ?_
          obtain ⟨r155_30, hc155_29, hf⟩ := sm_of_b1 hf
          refine ca_Model_142 hC hK hG (c_Model_wordAt hc155_29) hl.1 ⟨Nat.le_of_ble_eq_true rfl, Nat.le_of_ble_eq_true rfl⟩ ⟨Nat.zero_le _, Nat.zero_le _⟩ (Nat.le_of_ble_eq_true rfl) d_Model_isGood_155 ?_
          refine lv_i2l hx hb d_Model_isGood_158 rfl ?_
          refine lv_iload_n hx hb d_Model_isGood_159 rfl (lv_at hl 0 rfl) ?_
          refine lv_i2l hx hb d_Model_isGood_160 rfl ?_
          refine lv_ladd hx hb d_Model_isGood_161 ?_
          refine lv_lconst (v := 1) hx hb d_Model_isGood_162 (by decide) ?_
          refine lv_lsub hx hb d_Model_isGood_163 ?_
          refine lv_ldc2 hx hb hC.2.2.2.1 (hC.2.2.2.2 _ (List.mem_cons_of_mem _ aw_897)) d_Model_isGood_164 ?_
          refine W.lcmp hx hb d_Model_isGood_167 ?_
          refine lv_if_gt hx hb d_Model_isGood_168 rfl (fun h168_32 => ?_) (fun h168_32 => ?_)
          · have hf := sm_t h168_32 hf
            refine lv_iconst (v := 0) hx hb d_Model_isGood_175 (by decide) ?_
            obtain rfl := Option.some.inj hf
            exact sm_zret0 hC hr rfl hlk d_Model_isGood_176
          · have hf := sm_f h168_32 hf
            refine lv_iconst (v := 1) hx hb d_Model_isGood_171 (by decide) ?_
            refine lv_goto hx hb d_Model_isGood_172 rfl ?_
            obtain rfl := Option.some.inj hf
            exact sm_zret0 hC hr rfl hlk d_Model_isGood_176
    have hf := sm_f h21_23 hf
    by_cases h21_33 : a0 = 4
    · have hf := sm_t h21_33 hf
      refine lv_tableIn (tgt := 177) hx hb d_Model_isGood_21 (by rw [h21_33]; decide) (by rw [h21_33]; decide) (by rw [h21_33]; rfl) rfl ?_
      refine lv_iload_n hx hb d_Model_isGood_177 rfl (lv_at hl 0 rfl) ?_
      refine lv_bipush (v := 36) hx hb d_Model_isGood_178 (by decide) ?_
      refine lv_icmp_ne hx hb d_Model_isGood_180 rfl (fun h180_34 => ?_) (fun h180_34 => ?_)
      · have hf := sm_f h180_34 hf
        refine lv_iconst (v := 0) hx hb d_Model_isGood_187 (by decide) ?_
        obtain rfl := Option.some.inj hf
        exact sm_zret0 hC hr rfl hlk d_Model_isGood_188
      · have hf := sm_t h180_34 hf
        refine lv_iconst (v := 1) hx hb d_Model_isGood_183 (by decide) ?_
        refine lv_goto hx hb d_Model_isGood_184 rfl ?_
        obtain rfl := Option.some.inj hf
        exact sm_zret0 hC hr rfl hlk d_Model_isGood_188
    have hf := sm_f h21_33 hf
    by_cases h21_35 : a0 = 5
    · have hf := sm_t h21_35 hf
      refine lv_tableIn (tgt := 189) hx hb d_Model_isGood_21 (by rw [h21_35]; decide) (by rw [h21_35]; decide) (by rw [h21_35]; rfl) rfl ?_
      refine lv_iload_n hx hb d_Model_isGood_189 rfl (lv_at hl 0 rfl) ?_
      refine lv_bipush (v := 64) hx hb d_Model_isGood_190 (by decide) ?_
      refine lv_irem hx hb d_Model_isGood_192 (by decide) ?_
      refine lv_if_ne hx hb d_Model_isGood_193 rfl (fun h193_36 => ?_) (fun h193_36 => ?_)
      · have hf := sm_f h193_36 hf
        refine lv_iconst (v := 0) hx hb d_Model_isGood_219 (by decide) ?_
        obtain rfl := Option.some.inj hf
        exact sm_zret0 hC hr rfl hlk d_Model_isGood_220
      · have hf := sm_t h193_36 hf
        refine lv_iload_n hx hb d_Model_isGood_196 rfl (lv_at hl 0 rfl) ?_
        refine lv_i2l hx hb d_Model_isGood_197 rfl ?_
        refine lv_aload_n hx hb d_Model_isGood_198 rfl (lv_at hl 1 rfl) ?_
        refine lv_iconst (v := 2) hx hb d_Model_isGood_199 (by decide) ?_
        obtain ⟨r200_38, hc200_37, hf⟩ := sm_of_b1 hf
        refine ca_Model_142 hC hK hG (c_Model_wordAt hc200_37) hl.1 ⟨Nat.le_of_ble_eq_true rfl, Nat.le_of_ble_eq_true rfl⟩ ⟨Nat.zero_le _, Nat.zero_le _⟩ (Nat.le_of_ble_eq_true rfl) d_Model_isGood_200 ?_
        refine lv_i2l hx hb d_Model_isGood_203 rfl ?_
        refine lv_aload_n hx hb d_Model_isGood_204 rfl (lv_at hl 1 rfl) ?_
        refine lv_iconst (v := 3) hx hb d_Model_isGood_205 (by decide) ?_
        obtain ⟨r206_41, hc206_40, hf⟩ := sm_of_b1 hf
        refine ca_Model_142 hC hK hG (c_Model_wordAt hc206_40) hl.1 ⟨Nat.le_of_ble_eq_true rfl, Nat.le_of_ble_eq_true rfl⟩ ⟨Nat.zero_le _, Nat.zero_le _⟩ (Nat.le_of_ble_eq_true rfl) d_Model_isGood_206 ?_
        refine lv_i2l hx hb d_Model_isGood_209 rfl ?_
        refine lv_ladd hx hb d_Model_isGood_210 ?_
        refine W.lcmp hx hb d_Model_isGood_211 ?_
        refine lv_if_lt hx hb d_Model_isGood_212 rfl (fun h212_43 => ?_) (fun h212_43 => ?_)
        · have hf := sm_t h212_43 hf
          refine lv_iconst (v := 0) hx hb d_Model_isGood_219 (by decide) ?_
          obtain rfl := Option.some.inj hf
          exact sm_zret0 hC hr rfl hlk d_Model_isGood_220
        · have hf := sm_f h212_43 hf
          refine lv_iconst (v := 1) hx hb d_Model_isGood_215 (by decide) ?_
          refine lv_goto hx hb d_Model_isGood_216 rfl ?_
          obtain rfl := Option.some.inj hf
          exact sm_zret0 hC hr rfl hlk d_Model_isGood_220
    have hf := sm_f h21_35 hf
    by_cases h21_44 : a0 = 6
    · have hf := sm_t h21_44 hf
      refine lv_tableIn (tgt := 221) hx hb d_Model_isGood_21 (by rw [h21_44]; decide) (by rw [h21_44]; decide) (by rw [h21_44]; rfl) rfl ?_
      refine lv_iload_n hx hb d_Model_isGood_221 rfl (lv_at hl 0 rfl) ?_
      refine lv_iconst (v := 4) hx hb d_Model_isGood_222 (by decide) ?_
      refine lv_irem hx hb d_Model_isGood_223 (by decide) ?_
      refine lv_if_ne hx hb d_Model_isGood_224 rfl (fun h224_45 => ?_) (fun h224_45 => ?_)
      · have hf := sm_f h224_45 hf
        refine lv_iconst (v := 0) hx hb d_Model_isGood_260 (by decide) ?_
        obtain rfl := Option.some.inj hf
        exact sm_zret0 hC hr rfl hlk d_Model_isGood_261
      · have hf := sm_t h224_45 hf
        refine lv_iload_n hx hb d_Model_isGood_227 rfl (lv_at hl 0 rfl) ?_
        refine lv_iconst (v := 0) hx hb d_Model_isGood_228 (by decide) ?_
        refine lv_sipush (v := 4096) hx hb d_Model_isGood_229 (by decide) ?_
        obtain ⟨r232_47, hc232_46, hf⟩ := sm_of_b1 hf
        refine ca_Model_82 hC hK hG (c_Model_within hc232_46) hl.1 ⟨Nat.le_of_ble_eq_true rfl, Nat.le_of_ble_eq_true rfl⟩ ⟨Nat.zero_le _, Nat.zero_le _⟩ (Nat.le_of_ble_eq_true rfl) d_Model_isGood_232 ?_
        refine lv_if_eq hx hb d_Model_isGood_235 rfl (fun h235_49 => ?_) (fun h235_49 => ?_)
        · have hf := sm_t h235_49 hf
          refine lv_iconst (v := 0) hx hb d_Model_isGood_260 (by decide) ?_
          obtain rfl := Option.some.inj hf
          exact sm_zret0 hC hr rfl hlk d_Model_isGood_261
        · have hf := sm_f h235_49 hf
          refine lv_aload_n hx hb d_Model_isGood_238 rfl (lv_at hl 1 rfl) ?_
          refine lv_iconst (v := 5) hx hb d_Model_isGood_239 (by decide) ?_
          obtain ⟨r240_51, hc240_50, hf⟩ := sm_of_b1 hf
          refine ca_Model_142 hC hK hG (c_Model_wordAt hc240_50) hl.1 ⟨Nat.le_of_ble_eq_true rfl, Nat.le_of_ble_eq_true rfl⟩ ⟨Nat.zero_le _, Nat.zero_le _⟩ (Nat.le_of_ble_eq_true rfl) d_Model_isGood_240 ?_
          refine lv_i2l hx hb d_Model_isGood_243 rfl ?_
          refine lv_iload_n hx hb d_Model_isGood_244 rfl (lv_at hl 0 rfl) ?_
          refine lv_i2l hx hb d_Model_isGood_245 rfl ?_
          refine lv_ladd hx hb d_Model_isGood_246 ?_
          refine lv_lconst (v := 1) hx hb d_Model_isGood_247 (by decide) ?_
          refine lv_lsub hx hb d_Model_isGood_248 ?_
          refine lv_ldc2 hx hb hC.2.2.2.1 (hC.2.2.2.2 _ (List.mem_cons_of_mem _ aw_897)) d_Model_isGood_249 ?_
          refine W.lcmp hx hb d_Model_isGood_252 ?_
          refine lv_if_gt hx hb d_Model_isGood_253 rfl (fun h253_53 => ?_) (fun h253_53 => ?_)
          · have hf := sm_t h253_53 hf
            refine lv_iconst (v := 0) hx hb d_Model_isGood_260 (by decide) ?_
            obtain rfl := Option.some.inj hf
            exact sm_zret0 hC hr rfl hlk d_Model_isGood_261
          · have hf := sm_f h253_53 hf
            refine lv_iconst (v := 1) hx hb d_Model_isGood_256 (by decide) ?_
            refine lv_goto hx hb d_Model_isGood_257 rfl ?_
            obtain rfl := Option.some.inj hf
            exact sm_zret0 hC hr rfl hlk d_Model_isGood_261
    have hf := sm_f h21_44 hf
    by_cases h21_54 : a0 = 7
    · have hf := sm_t h21_54 hf
      refine lv_tableIn (tgt := 262) hx hb d_Model_isGood_21 (by rw [h21_54]; decide) (by rw [h21_54]; decide) (by rw [h21_54]; rfl) rfl ?_
      refine lv_iload_n hx hb d_Model_isGood_262 rfl (lv_at hl 0 rfl) ?_
      refine lv_bipush (v := 36) hx hb d_Model_isGood_263 (by decide) ?_
      refine lv_aload_n hx hb d_Model_isGood_265 rfl (lv_at hl 1 rfl) ?_
      refine lv_iconst (v := 3) hx hb d_Model_isGood_266 (by decide) ?_
      obtain ⟨r267_56, hc267_55, hf⟩ := sm_of_b1 hf
      refine ca_Model_142 hC hK hG (c_Model_wordAt hc267_55) hl.1 ⟨Nat.le_of_ble_eq_true rfl, Nat.le_of_ble_eq_true rfl⟩ ⟨Nat.zero_le _, Nat.zero_le _⟩ (Nat.le_of_ble_eq_true rfl) d_Model_isGood_267 ?_
      refine lv_iadd hx hb d_Model_isGood_270 ?_
      refine lv_icmp_ne hx hb d_Model_isGood_271 rfl (fun h271_58 => ?_) (fun h271_58 => ?_)
      · have hf := sm_f h271_58 hf
        refine lv_iconst (v := 0) hx hb d_Model_isGood_278 (by decide) ?_
        obtain rfl := Option.some.inj hf
        exact sm_zret0 hC hr rfl hlk d_Model_isGood_279
      · have hf := sm_t h271_58 hf
        refine lv_iconst (v := 1) hx hb d_Model_isGood_274 (by decide) ?_
        refine lv_goto hx hb d_Model_isGood_275 rfl ?_
        obtain rfl := Option.some.inj hf
        exact sm_zret0 hC hr rfl hlk d_Model_isGood_279
    have hf := sm_f h21_54 hf
    refine lv_tableOut (tgt := 280) hx hb d_Model_isGood_21 (by have := lv_neT (a := 0) h21_5 rfl; have := lv_neT (a := 1) h21_7 rfl; have := lv_neT (a := 2) h21_20 rfl; have := lv_neT (a := 3) h21_23 rfl; have := lv_neT (a := 4) h21_33 rfl; have := lv_neT (a := 5) h21_35 rfl; have := lv_neT (a := 6) h21_44 rfl; have := lv_neT (a := 7) h21_54 rfl; omega) rfl ?_
    refine lv_iconst (v := 0) hx hb d_Model_isGood_280 (by decide) ?_
    refine lv_istore_n hx hb d_Model_isGood_281 rfl hl (Nat.le_of_ble_eq_true rfl) rfl (fun ls hl => ?_)
    have hl : lv_has ls 5 [(3, .int (0 : Int32)), (2, .int r16_3), (0, .ref (sm_a v 68)), (1, .int a0)] := hl
    have hl : lv_has ls 5 [(3, .int (0 : Int32)), (2, .int r16_3), (0, .ref (sm_a v 68))] := lv_sub hl [0, 1, 2] rfl
    refine lv_iconst (v := 0) hx hb d_Model_isGood_282 (by decide) ?_
    refine lv_istore hx hb d_Model_isGood_283 hl (Nat.le_of_ble_eq_true rfl) rfl (fun ls hl => ?_)
    have hl : lv_has ls 5 [(4, .int (0 : Int32)), (3, .int (0 : Int32)), (2, .int r16_3), (0, .ref (sm_a v 68))] := hl
    exact lw_Model_isGood_285 hC hr hlk hK M r16_3 hG 1100 _ _ ls hl hf
  · have hf := sm_f h9_1 hf
    refine lv_iconst (v := 0) hx hb d_Model_isGood_12 (by decide) ?_
    obtain rfl := Option.some.inj hf
    exact sm_zret0 hC hr rfl hlk d_Model_isGood_13
abbrev w_Model_turn : List Cond := Cond.code y_Model_turn b_Model_turn 1 (some .int) :: sm_AW
abbrev rm_Model_turn : Room := { frames := 0, cells := 0, slots := 0, locals := 0 }
def f_Model_turn (a0 : Int32) : Option (Int32) :=
(if a0 = 0 then
(some a0)
else
(if a0 ≤ (4 : Int32) then
(if a0 = (4 : Int32) then
(some (1 : Int32))
else
(some (a0 + (1 : Int32))))
else
(some a0)))
set_option maxHeartbeats 4000000 in
set_option maxRecDepth 100000 in
theorem c_Model_turn {l : Launch} {v : sm_V} {o : sm_O} {M : sm_M} {a0 : Int32} {r : Int32} (hf : f_Model_turn a0 = some r) : sm_Ri l y_Model_turn w_Model_turn rm_Model_turn v [.int a0] M o r  := by
  refine sm_met (cc := b_Model_turn) (nL := 1) (ret := some .int) (plainFor_of_name (by decide)) rfl (Nat.le_of_ble_eq_true rfl) (fun p e s m args below meth c hC hr hlk hK hG ls hl => ?_)
  have hx := hC.1
  have hb := hC.2.1
  have hl : lv_has ls 1 [(0, .int a0)] := hl
  unfold f_Model_turn at hf
  refine lv_iload_n hx hb d_Model_turn_0 rfl (lv_at hl 0 rfl) ?_
  refine lv_if_eq hx hb d_Model_turn_1 rfl (fun h1_1 => ?_) (fun h1_1 => ?_)
  · have hf := sm_t h1_1 hf
    refine lv_iload_n hx hb d_Model_turn_9 rfl (lv_at hl 0 rfl) ?_
    refine lv_goto hx hb d_Model_turn_10 rfl ?_
    obtain rfl := Option.some.inj hf
    exact sm_iret0 hC hr hlk d_Model_turn_25
  · have hf := sm_f h1_1 hf
    refine lv_iload_n hx hb d_Model_turn_4 rfl (lv_at hl 0 rfl) ?_
    refine lv_iconst (v := 4) hx hb d_Model_turn_5 (by decide) ?_
    refine lv_icmp_le hx hb d_Model_turn_6 rfl (fun h6_2 => ?_) (fun h6_2 => ?_)
    · have hf := sm_t h6_2 hf
      refine lv_iload_n hx hb d_Model_turn_13 rfl (lv_at hl 0 rfl) ?_
      refine lv_iconst (v := 4) hx hb d_Model_turn_14 (by decide) ?_
      refine lv_icmp_ne hx hb d_Model_turn_15 rfl (fun h15_3 => ?_) (fun h15_3 => ?_)
      · have hf := sm_f h15_3 hf
        refine lv_iload_n hx hb d_Model_turn_22 rfl (lv_at hl 0 rfl) ?_
        refine lv_iconst (v := 1) hx hb d_Model_turn_23 (by decide) ?_
        refine lv_iadd hx hb d_Model_turn_24 ?_
        obtain rfl := Option.some.inj hf
        exact sm_iret0 hC hr hlk d_Model_turn_25
      · have hf := sm_t h15_3 hf
        refine lv_iconst (v := 1) hx hb d_Model_turn_18 (by decide) ?_
        refine lv_goto hx hb d_Model_turn_19 rfl ?_
        obtain rfl := Option.some.inj hf
        exact sm_iret0 hC hr hlk d_Model_turn_25
    · have hf := sm_f h6_2 hf
      refine lv_iload_n hx hb d_Model_turn_9 rfl (lv_at hl 0 rfl) ?_
      refine lv_goto hx hb d_Model_turn_10 rfl ?_
      obtain rfl := Option.some.inj hf
      exact sm_iret0 hC hr hlk d_Model_turn_25
theorem ca_Model_147 {p : Program} {l : Launch} {e : Env} {R : Room} {s : State} {m : MethodId} {args : Array Value} {below : List Frame} {meth : Method} {c : Code} {H : Heap} {locs : List Loc} {cells slots : Nat} {Q : State → Prop} {cc : ByteArray} {nL pc : Nat} {ls : Array Slot} {rest : List Value} {w0 : Cond} {v : sm_V} {M : sm_M} {o : sm_O} {x0 : Int32} {r : Int32} (hC : CallFix p m c cc nL s args (w0 :: sm_AW) R_Model) (hK : sm_K v s) (hG : sm_G v M o s H locs) (hM : sm_Ri l y_Model_turn w_Model_turn rm_Model_turn v [.int x0] M o r) (hsz : ls.size = nL) (hR : rm_Model_turn.frames + 1 ≤ R.frames ∧ 8 + (1 + 11) + rm_Model_turn.locals ≤ R.locals) (hcs : cells + 0 ≤ R.cells ∧ slots + 0 ≤ R.slots) (hW : (rest.map fun v => v.category).sum ≤ 8) (hdg : decode cc pc = .ok (.invokestatic 147, 3))
    (kk : W p l e R s m args below meth c H locs cells slots Q (F0 m (pc + 3) ls (.int r :: rest))) : W p l e R s m args below meth c H locs cells slots Q (F0 m pc ls (.int x0 :: rest)) :=
  sm_calli0 (va_runS (As := [.int x0]) (rest := rest) hC hM (cwS 1 hC.2.2.2.2 (sm_good (sm_inS aw_886 aw_887 aw_7 aw_888)) rfl rfl rfl (by decide +kernel) hR) (sm_preS hK hG) rfl rfl hsz rfl (lv_room hW) hdg hcs) kk
theorem ca_Model_150 {p : Program} {l : Launch} {e : Env} {R : Room} {s : State} {m : MethodId} {args : Array Value} {below : List Frame} {meth : Method} {c : Code} {H : Heap} {locs : List Loc} {cells slots : Nat} {Q : State → Prop} {cc : ByteArray} {nL pc : Nat} {ls : Array Slot} {rest : List Value} {w0 : Cond} {v : sm_V} {M : sm_M} {o : sm_O} {x0 : Int32} {r : Int32} (hC : CallFix p m c cc nL s args (w0 :: sm_AW) R_Model) (hK : sm_K v s) (hG : sm_G v M o s H locs) (hM : sm_Ri l y_Model_isGood w_Model_isGood rm_Model_isGood v [.ref (sm_a v 68), .int x0] M o r) (hsz : ls.size = nL) (hR : rm_Model_isGood.frames + 1 ≤ R.frames ∧ 8 + (5 + 11) + rm_Model_isGood.locals ≤ R.locals) (hcs : cells + 0 ≤ R.cells ∧ slots + 0 ≤ R.slots) (hW : (rest.map fun v => v.category).sum ≤ 8) (hdg : decode cc pc = .ok (.invokevirtual 150, 3))
    (kk : W p l e R s m args below meth c H locs cells slots Q (F0 m (pc + 3) ls (.int r :: rest))) : W p l e R s m args below meth c H locs cells slots Q (F0 m pc ls (.int x0 :: .ref (sm_a v 68) :: rest)) :=
  sm_calli0 (va_runV (C := R_Model) (As := [.int x0]) (rest := rest) hC hM (cwV 1 hC.2.2.2.2 (sm_good (sm_inV aw_889 aw_891 as_38 aw_7 aw_892)) rfl rfl rfl (by decide +kernel) hR) (sm_preV hK hG (by decide) rfl rfl) rfl rfl hsz rfl (lv_room hW) hdg hcs) kk
abbrev w_Model_read : List Cond := Cond.code y_Model_read b_Model_read 3 (some .int) :: sm_AW
abbrev rm_Model_read : Room := { frames := 2, cells := 0, slots := 0, locals := 46 }
def g_Model_read_166 (rec166 : sm_M → Int32 → Option (Int32 × sm_M)) (M : sm_M) (w1 : Int32) : Option (Int32 × sm_M) :=
(if (32 : Int32) ≤ w1 then
(some ((0 : Int32), M))
else
sm_gd w1 32 (
sm_nm (sm_up M 88 (Int32.toNatClampNeg w1) (0 : Int32)) fun M178_36 =>
rec166 M178_36 (w1 + (1 : Int32))))
def g_Model_read_107 (rec107 : sm_M → Int32 → Option (Int32 × sm_M)) (M : sm_M) (w1 : Int32) : Option (Int32 × sm_M) :=
(if ((M 68 21) + (M 68 23)) ≤ w1 then
sm_b1 (f_Model_wordAt M (1 : Int32)) fun r143_28 =>
sm_nm (sm_up M 68 26 r143_28) fun M146_30 =>
sm_nm (sm_up M146_30 68 25 (1 : Int32)) fun M151_31 =>
sm_nm (sm_up M151_31 68 27 (0 : Int32)) fun M156_32 =>
sm_nm (sm_up M156_32 68 29 (0 : Int32)) fun M161_33 =>
sm_lp2 (g_Model_read_166) 1100 M161_33 (0 : Int32)
else
sm_b1 (f_Model_wordAt M ((9 : Int32) + w1)) fun r130_38 =>
sm_gd w1 250 (
sm_nm (sm_up M 87 (Int32.toNatClampNeg w1) r130_38) fun M133_41 =>
rec107 M133_41 (w1 + (1 : Int32))))
def g_Model_read_7 (M : sm_M) (rec7 : Int32 → Option (Int32 × sm_M)) (w1 : Int32) : Option (Int32 × sm_M) :=
(if (9 : Int32) ≤ w1 then
sm_b1 (f_Model_wordAt M (3 : Int32)) fun r47_4 =>
sm_b1 (f_Model_wordAt M (6 : Int32)) fun r54_7 =>
(if (M 68 18) = (((36 : Int32) + r47_4) + r54_7) then
sm_b1 (f_Model_wordAt M (2 : Int32)) fun r67_11 =>
sm_nm (sm_up M 68 20 r67_11) fun M70_13 =>
sm_b1 (f_Model_wordAt M70_13 (3 : Int32)) fun r76_15 =>
sm_nm (sm_up M70_13 68 21 (r76_15 / (4 : Int32))) fun M81_17 =>
sm_b1 (f_Model_wordAt M81_17 (5 : Int32)) fun r87_19 =>
sm_nm (sm_up M81_17 68 22 r87_19) fun M90_21 =>
sm_b1 (f_Model_wordAt M90_21 (6 : Int32)) fun r97_23 =>
sm_nm (sm_up M90_21 68 23 (r97_23 / (4 : Int32))) fun M102_25 =>
sm_lp2 (g_Model_read_107) 1100 M102_25 (0 : Int32)
else
(some ((-10 : Int32), M)))
else
sm_b1 (f_Model_turn w1) fun r15_43 =>
sm_b1 (f_Model_isGood M r15_43) fun r18_46 =>
(if r18_46 = 0 then
sm_b1 (f_Model_turn w1) fun r28_50 =>
(some ((-1 : Int32) - r28_50, M))
else
rec7 (w1 + (1 : Int32))))
def f_Model_read (M : sm_M) : Option (Int32 × sm_M) :=
sm_nm (sm_up M 68 0 (0 : Int32)) fun M2_1 =>
sm_lp1 (g_Model_read_7 M2_1) 1100 (0 : Int32)
set_option maxHeartbeats 4000000 in
set_option maxRecDepth 100000 in
theorem lw_Model_read_166 {p : Program} {l : Launch} {e : Env} {s : State} {m : MethodId} {args : Array Value} {below : List Frame} {meth : Method} {c : Code} {v : sm_V} {o : sm_O} {r : Int32} {M' : sm_M} (hC : CallFix p m c b_Model_read 3 s args w_Model_read R_Model) (hr : meth.sig.returnType = some .int) (hlk : meth.locks = false) (hK : sm_K v s) :
    ∀ (n : Nat) (M : sm_M) (w1 : Int32) (H : Heap) (locs : List Loc) (ls : Array Slot), sm_G v M o s H locs → lv_has ls 3 [(1, .int w1), (0, .ref (sm_a v 68))] → sm_lp2 (g_Model_read_166) n M w1 = some (r, M') → W p l e rm_Model_read s m args below meth c H locs 0 0 (MQ below (sm_Qi v M' o r) args s 0 0 (sm_A v)) (F0 m 166 ls []) := by
  have hx := hC.1
  have hb := hC.2.1
  intro n
  induction n with
  | zero =>
    intro M w1 H locs ls hG hl hf
    cases hf
  | succ n ih =>
    intro M w1 H locs ls hG hl hf
    have hf : g_Model_read_166 (sm_lp2 (g_Model_read_166) n) M w1 = some (r, M') := hf
    unfold g_Model_read_166 at hf
    refine lv_iload_n hx hb d_Model_read_166 rfl (lv_at hl 0 rfl) ?_
    refine lv_bipush (v := 32) hx hb d_Model_read_167 (by decide) ?_
    refine lv_icmp_ge hx hb d_Model_read_169 rfl (fun h169_34 => ?_) (fun h169_34 => ?_)
    · have hf := sm_t h169_34 hf
      refine lv_iconst (v := 0) hx hb d_Model_read_185 (by decide) ?_
      obtain ⟨rfl, rfl⟩ := Prod.mk.inj (Option.some.inj hf)
      exact sm_iret hC hr hlk hG d_Model_read_186
    · have hf := sm_f h169_34 hf
      refine lv_aload_n hx hb d_Model_read_172 rfl (lv_at hl 1 rfl) ?_
      refine gf_Model_68 hC hK hG d_Model_read_173 ?_
      refine lv_iload_n hx hb d_Model_read_176 rfl (lv_at hl 0 rfl) ?_
      refine lv_iconst (v := 0) hx hb d_Model_read_177 (by decide) ?_
      obtain ⟨h178_35, hf⟩ := sm_of_gd hf
      refine sm_iast hC hK hG (by decide) rfl h178_35 d_Model_read_178 (fun M178_36 H locs eM178_36 hG => ?_)
      have hf := sm_of eM178_36 hf
      refine lv_iinc (v := w1 + (1 : Int32)) (k := 0) hx hb d_Model_read_179 hl rfl rfl (Nat.le_of_ble_eq_true rfl) rfl (fun ls hl => ?_)
      have hl : lv_has ls 3 [(1, .int (w1 + (1 : Int32))), (0, .ref (sm_a v 68))] := hl
      refine lv_goto hx hb d_Model_read_182 rfl ?_
      exact ih _ _ _ _ ls hG hl hf
set_option maxHeartbeats 4000000 in
set_option maxRecDepth 100000 in
theorem lw_Model_read_107 {p : Program} {l : Launch} {e : Env} {s : State} {m : MethodId} {args : Array Value} {below : List Frame} {meth : Method} {c : Code} {v : sm_V} {o : sm_O} {r : Int32} {M' : sm_M} (hC : CallFix p m c b_Model_read 3 s args w_Model_read R_Model) (hr : meth.sig.returnType = some .int) (hlk : meth.locks = false) (hK : sm_K v s) :
    ∀ (n : Nat) (M : sm_M) (w1 : Int32) (H : Heap) (locs : List Loc) (ls : Array Slot), sm_G v M o s H locs → lv_has ls 3 [(1, .int w1), (0, .ref (sm_a v 68))] → sm_lp2 (g_Model_read_107) n M w1 = some (r, M') → W p l e rm_Model_read s m args below meth c H locs 0 0 (MQ below (sm_Qi v M' o r) args s 0 0 (sm_A v)) (F0 m 107 ls []) := by
  have hx := hC.1
  have hb := hC.2.1
  intro n
  induction n with
  | zero =>
    intro M w1 H locs ls hG hl hf
    cases hf
  | succ n ih =>
    intro M w1 H locs ls hG hl hf
    have hf : g_Model_read_107 (sm_lp2 (g_Model_read_107) n) M w1 = some (r, M') := hf
    unfold g_Model_read_107 at hf
    refine lv_iload_n hx hb d_Model_read_107 rfl (lv_at hl 0 rfl) ?_
    refine lv_aload_n hx hb d_Model_read_108 rfl (lv_at hl 1 rfl) ?_
    refine gf_Model_156 hC hK hG d_Model_read_109 ?_
    refine lv_aload_n hx hb d_Model_read_112 rfl (lv_at hl 1 rfl) ?_
    refine gf_Model_162 hC hK hG d_Model_read_113 ?_
    refine lv_iadd hx hb d_Model_read_116 ?_
    refine lv_icmp_ge hx hb d_Model_read_117 rfl (fun h117_26 => ?_) (fun h117_26 => ?_)
    · have hf := sm_t h117_26 hf
      refine lv_aload_n hx hb d_Model_read_140 rfl (lv_at hl 1 rfl) ?_
      refine lv_aload_n hx hb d_Model_read_141 rfl (lv_at hl 1 rfl) ?_
      refine lv_iconst (v := 1) hx hb d_Model_read_142 (by decide) ?_
      obtain ⟨r143_28, hc143_27, hf⟩ := sm_of_b1 hf
      refine ca_Model_142 hC hK hG (c_Model_wordAt hc143_27) hl.1 ⟨Nat.le_of_ble_eq_true rfl, Nat.le_of_ble_eq_true rfl⟩ ⟨Nat.zero_le _, Nat.zero_le _⟩ (Nat.le_of_ble_eq_true rfl) d_Model_read_143 ?_
      refine pf_Model_165 hC hK hG d_Model_read_146 (fun M146_30 H locs eM146_30 hG => ?_)
      have hf := sm_of eM146_30 hf
      refine lv_aload_n hx hb d_Model_read_149 rfl (lv_at hl 1 rfl) ?_
      refine lv_iconst (v := 1) hx hb d_Model_read_150 (by decide) ?_
      refine pf_Model_168 hC hK hG d_Model_read_151 (fun M151_31 H locs eM151_31 hG => ?_)
      have hf := sm_of eM151_31 hf
      refine lv_aload_n hx hb d_Model_read_154 rfl (lv_at hl 1 rfl) ?_
      refine lv_iconst (v := 0) hx hb d_Model_read_155 (by decide) ?_
      refine pf_Model_171 hC hK hG d_Model_read_156 (fun M156_32 H locs eM156_32 hG => ?_)
      have hf := sm_of eM156_32 hf
      refine lv_aload_n hx hb d_Model_read_159 rfl (lv_at hl 1 rfl) ?_
      refine lv_iconst (v := 0) hx hb d_Model_read_160 (by decide) ?_
      refine pf_Model_174 hC hK hG d_Model_read_161 (fun M161_33 H locs eM161_33 hG => ?_)
      have hf := sm_of eM161_33 hf
      refine lv_iconst (v := 0) hx hb d_Model_read_164 (by decide) ?_
      refine lv_istore_n hx hb d_Model_read_165 rfl hl (Nat.le_of_ble_eq_true rfl) rfl (fun ls hl => ?_)
      have hl : lv_has ls 3 [(1, .int (0 : Int32)), (0, .ref (sm_a v 68))] := hl
      exact lw_Model_read_166 hC hr hlk hK  1100 _ _ _ _ ls hG hl hf
    · have hf := sm_f h117_26 hf
      refine lv_aload_n hx hb d_Model_read_120 rfl (lv_at hl 1 rfl) ?_
      refine gf_Model_65 hC hK hG d_Model_read_121 ?_
      refine lv_iload_n hx hb d_Model_read_124 rfl (lv_at hl 0 rfl) ?_
      refine lv_aload_n hx hb d_Model_read_125 rfl (lv_at hl 1 rfl) ?_
      refine lv_bipush (v := 9) hx hb d_Model_read_126 (by decide) ?_
      refine lv_iload_n hx hb d_Model_read_128 rfl (lv_at hl 0 rfl) ?_
      refine lv_iadd hx hb d_Model_read_129 ?_
      obtain ⟨r130_38, hc130_37, hf⟩ := sm_of_b1 hf
      refine ca_Model_142 hC hK hG (c_Model_wordAt hc130_37) hl.1 ⟨Nat.le_of_ble_eq_true rfl, Nat.le_of_ble_eq_true rfl⟩ ⟨Nat.zero_le _, Nat.zero_le _⟩ (Nat.le_of_ble_eq_true rfl) d_Model_read_130 ?_
      obtain ⟨h133_40, hf⟩ := sm_of_gd hf
      refine sm_iast hC hK hG (by decide) rfl h133_40 d_Model_read_133 (fun M133_41 H locs eM133_41 hG => ?_)
      have hf := sm_of eM133_41 hf
      refine lv_iinc (v := w1 + (1 : Int32)) (k := 0) hx hb d_Model_read_134 hl rfl rfl (Nat.le_of_ble_eq_true rfl) rfl (fun ls hl => ?_)
      have hl : lv_has ls 3 [(1, .int (w1 + (1 : Int32))), (0, .ref (sm_a v 68))] := hl
      refine lv_goto hx hb d_Model_read_137 rfl ?_
      exact ih _ _ _ _ ls hG hl hf
set_option maxHeartbeats 4000000 in
set_option maxRecDepth 100000 in
theorem lw_Model_read_7 {p : Program} {l : Launch} {e : Env} {s : State} {m : MethodId} {args : Array Value} {below : List Frame} {meth : Method} {c : Code} {v : sm_V} {o : sm_O} {r : Int32} {M' : sm_M} (hC : CallFix p m c b_Model_read 3 s args w_Model_read R_Model) (hr : meth.sig.returnType = some .int) (hlk : meth.locks = false) (hK : sm_K v s) (M : sm_M) :
    ∀ (n : Nat) (w1 : Int32) (H : Heap) (locs : List Loc) (ls : Array Slot), sm_G v M o s H locs → lv_has ls 3 [(1, .int w1), (0, .ref (sm_a v 68))] → sm_lp1 (g_Model_read_7 M) n w1 = some (r, M') → W p l e rm_Model_read s m args below meth c H locs 0 0 (MQ below (sm_Qi v M' o r) args s 0 0 (sm_A v)) (F0 m 7 ls []) := by
  have hx := hC.1
  have hb := hC.2.1
  intro n
  induction n with
  | zero =>
    intro w1 H locs ls hG hl hf
    cases hf
  | succ n ih =>
    intro w1 H locs ls hG hl hf
    have hf : g_Model_read_7 M (sm_lp1 (g_Model_read_7 M) n) w1 = some (r, M') := hf
    unfold g_Model_read_7 at hf
    refine lv_iload_n hx hb d_Model_read_7 rfl (lv_at hl 0 rfl) ?_
    refine lv_bipush (v := 9) hx hb d_Model_read_8 (by decide) ?_
    refine lv_icmp_ge hx hb d_Model_read_10 rfl (fun h10_2 => ?_) (fun h10_2 => ?_)
    · have hf := sm_t h10_2 hf
      refine lv_aload_n hx hb d_Model_read_39 rfl (lv_at hl 1 rfl) ?_
      refine gf_Model_122 hC hK hG d_Model_read_40 ?_
      refine lv_bipush (v := 36) hx hb d_Model_read_43 (by decide) ?_
      refine lv_aload_n hx hb d_Model_read_45 rfl (lv_at hl 1 rfl) ?_
      refine lv_iconst (v := 3) hx hb d_Model_read_46 (by decide) ?_
      obtain ⟨r47_4, hc47_3, hf⟩ := sm_of_b1 hf
      refine ca_Model_142 hC hK hG (c_Model_wordAt hc47_3) hl.1 ⟨Nat.le_of_ble_eq_true rfl, Nat.le_of_ble_eq_true rfl⟩ ⟨Nat.zero_le _, Nat.zero_le _⟩ (Nat.le_of_ble_eq_true rfl) d_Model_read_47 ?_
      refine lv_iadd hx hb d_Model_read_50 ?_
      refine lv_aload_n hx hb d_Model_read_51 rfl (lv_at hl 1 rfl) ?_
      refine lv_bipush (v := 6) hx hb d_Model_read_52 (by decide) ?_
      obtain ⟨r54_7, hc54_6, hf⟩ := sm_of_b1 hf
      refine ca_Model_142 hC hK hG (c_Model_wordAt hc54_6) hl.1 ⟨Nat.le_of_ble_eq_true rfl, Nat.le_of_ble_eq_true rfl⟩ ⟨Nat.zero_le _, Nat.zero_le _⟩ (Nat.le_of_ble_eq_true rfl) d_Model_read_54 ?_
      refine lv_iadd hx hb d_Model_read_57 ?_
      refine lv_icmp_eq hx hb d_Model_read_58 rfl (fun h58_9 => ?_) (fun h58_9 => ?_)
      · have hf := sm_t h58_9 hf
        refine lv_aload_n hx hb d_Model_read_64 rfl (lv_at hl 1 rfl) ?_
        refine lv_aload_n hx hb d_Model_read_65 rfl (lv_at hl 1 rfl) ?_
        refine lv_iconst (v := 2) hx hb d_Model_read_66 (by decide) ?_
        obtain ⟨r67_11, hc67_10, hf⟩ := sm_of_b1 hf
        refine ca_Model_142 hC hK hG (c_Model_wordAt hc67_10) hl.1 ⟨Nat.le_of_ble_eq_true rfl, Nat.le_of_ble_eq_true rfl⟩ ⟨Nat.zero_le _, Nat.zero_le _⟩ (Nat.le_of_ble_eq_true rfl) d_Model_read_67 ?_
        refine pf_Model_153 hC hK hG d_Model_read_70 (fun M70_13 H locs eM70_13 hG => ?_)
        have hf := sm_of eM70_13 hf
        refine lv_aload_n hx hb d_Model_read_73 rfl (lv_at hl 1 rfl) ?_
        refine lv_aload_n hx hb d_Model_read_74 rfl (lv_at hl 1 rfl) ?_
        refine lv_iconst (v := 3) hx hb d_Model_read_75 (by decide) ?_
        obtain ⟨r76_15, hc76_14, hf⟩ := sm_of_b1 hf
        refine ca_Model_142 hC hK hG (c_Model_wordAt hc76_14) hl.1 ⟨Nat.le_of_ble_eq_true rfl, Nat.le_of_ble_eq_true rfl⟩ ⟨Nat.zero_le _, Nat.zero_le _⟩ (Nat.le_of_ble_eq_true rfl) d_Model_read_76 ?_
        refine lv_iconst (v := 4) hx hb d_Model_read_79 (by decide) ?_
        refine lv_idiv hx hb d_Model_read_80 (by decide) ?_
        refine pf_Model_156 hC hK hG d_Model_read_81 (fun M81_17 H locs eM81_17 hG => ?_)
        have hf := sm_of eM81_17 hf
        refine lv_aload_n hx hb d_Model_read_84 rfl (lv_at hl 1 rfl) ?_
        refine lv_aload_n hx hb d_Model_read_85 rfl (lv_at hl 1 rfl) ?_
        refine lv_iconst (v := 5) hx hb d_Model_read_86 (by decide) ?_
        obtain ⟨r87_19, hc87_18, hf⟩ := sm_of_b1 hf
        refine ca_Model_142 hC hK hG (c_Model_wordAt hc87_18) hl.1 ⟨Nat.le_of_ble_eq_true rfl, Nat.le_of_ble_eq_true rfl⟩ ⟨Nat.zero_le _, Nat.zero_le _⟩ (Nat.le_of_ble_eq_true rfl) d_Model_read_87 ?_
        refine pf_Model_159 hC hK hG d_Model_read_90 (fun M90_21 H locs eM90_21 hG => ?_)
        have hf := sm_of eM90_21 hf
        refine lv_aload_n hx hb d_Model_read_93 rfl (lv_at hl 1 rfl) ?_
        refine lv_aload_n hx hb d_Model_read_94 rfl (lv_at hl 1 rfl) ?_
        refine lv_bipush (v := 6) hx hb d_Model_read_95 (by decide) ?_
        obtain ⟨r97_23, hc97_22, hf⟩ := sm_of_b1 hf
        refine ca_Model_142 hC hK hG (c_Model_wordAt hc97_22) hl.1 ⟨Nat.le_of_ble_eq_true rfl, Nat.le_of_ble_eq_true rfl⟩ ⟨Nat.zero_le _, Nat.zero_le _⟩ (Nat.le_of_ble_eq_true rfl) d_Model_read_97 ?_
        refine lv_iconst (v := 4) hx hb d_Model_read_100 (by decide) ?_
        refine lv_idiv hx hb d_Model_read_101 (by decide) ?_
        refine pf_Model_162 hC hK hG d_Model_read_102 (fun M102_25 H locs eM102_25 hG => ?_)
        have hf := sm_of eM102_25 hf
        refine lv_iconst (v := 0) hx hb d_Model_read_105 (by decide) ?_
        refine lv_istore_n hx hb d_Model_read_106 rfl hl (Nat.le_of_ble_eq_true rfl) rfl (fun ls hl => ?_)
        have hl : lv_has ls 3 [(1, .int (0 : Int32)), (0, .ref (sm_a v 68))] := hl
        exact lw_Model_read_107 hC hr hlk hK  1100 _ _ _ _ ls hG hl hf
      · have hf := sm_f h58_9 hf
        refine lv_bipush (v := -10) hx hb d_Model_read_61 (by decide) ?_
        obtain ⟨rfl, rfl⟩ := Prod.mk.inj (Option.some.inj hf)
        exact sm_iret hC hr hlk hG d_Model_read_63
    · have hf := sm_f h10_2 hf
      refine lv_aload_n hx hb d_Model_read_13 rfl (lv_at hl 1 rfl) ?_
      refine lv_iload_n hx hb d_Model_read_14 rfl (lv_at hl 0 rfl) ?_
      obtain ⟨r15_43, hc15_42, hf⟩ := sm_of_b1 hf
      refine ca_Model_147 hC hK hG (c_Model_turn hc15_42) hl.1 ⟨Nat.le_of_ble_eq_true rfl, Nat.le_of_ble_eq_true rfl⟩ ⟨Nat.zero_le _, Nat.zero_le _⟩ (Nat.le_of_ble_eq_true rfl) d_Model_read_15 ?_
      obtain ⟨r18_46, hc18_45, hf⟩ := sm_of_b1 hf
      refine ca_Model_150 hC hK hG (c_Model_isGood hc18_45) hl.1 ⟨Nat.le_of_ble_eq_true rfl, Nat.le_of_ble_eq_true rfl⟩ ⟨Nat.zero_le _, Nat.zero_le _⟩ (Nat.le_of_ble_eq_true rfl) d_Model_read_18 ?_
      refine lv_istore_n hx hb d_Model_read_21 rfl hl (Nat.le_of_ble_eq_true rfl) rfl (fun ls hl => ?_)
      have hl : lv_has ls 3 [(2, .int r18_46), (1, .int w1), (0, .ref (sm_a v 68))] := hl
      refine lv_iload_n hx hb d_Model_read_22 rfl (lv_at hl 0 rfl) ?_
      refine lv_if_ne hx hb d_Model_read_23 rfl (fun h23_48 => ?_) (fun h23_48 => ?_)
      · have hf := sm_f h23_48 hf
        refine lv_iinc (v := w1 + (1 : Int32)) (k := 1) hx hb d_Model_read_33 hl rfl rfl (Nat.le_of_ble_eq_true rfl) rfl (fun ls hl => ?_)
        have hl : lv_has ls 3 [(1, .int (w1 + (1 : Int32))), (2, .int r18_46), (0, .ref (sm_a v 68))] := hl
        refine lv_goto hx hb d_Model_read_36 rfl ?_
        exact ih _ _ _ ls hG (lv_sub hl [0, 2] rfl) hf
      · have hf := sm_t h23_48 hf
        refine lv_iconst (v := -1) hx hb d_Model_read_26 (by decide) ?_
        refine lv_iload_n hx hb d_Model_read_27 rfl (lv_at hl 1 rfl) ?_
        obtain ⟨r28_50, hc28_49, hf⟩ := sm_of_b1 hf
        refine ca_Model_147 hC hK hG (c_Model_turn hc28_49) hl.1 ⟨Nat.le_of_ble_eq_true rfl, Nat.le_of_ble_eq_true rfl⟩ ⟨Nat.zero_le _, Nat.zero_le _⟩ (Nat.le_of_ble_eq_true rfl) d_Model_read_28 ?_
        refine lv_isub hx hb d_Model_read_31 ?_
        obtain ⟨rfl, rfl⟩ := Prod.mk.inj (Option.some.inj hf)
        exact sm_iret hC hr hlk hG d_Model_read_32
set_option maxHeartbeats 4000000 in
set_option maxRecDepth 100000 in
theorem c_Model_read {l : Launch} {v : sm_V} {o : sm_O} {M : sm_M} {r : Int32} {M' : sm_M} (hf : f_Model_read M = some (r, M')) : sm_Ci l y_Model_read w_Model_read rm_Model_read v [.ref (sm_a v 68)] M o r M' := by
  refine sm_met (cc := b_Model_read) (nL := 3) (ret := some .int) (plainFor_of_name (by decide)) rfl (Nat.le_of_ble_eq_true rfl) (fun p e s m args below meth c hC hr hlk hK hG ls hl => ?_)
  have hx := hC.1
  have hb := hC.2.1
  have hl : lv_has ls 3 [(0, .ref (sm_a v 68))] := hl
  unfold f_Model_read at hf
  refine lv_aload_n hx hb d_Model_read_0 rfl (lv_at hl 0 rfl) ?_
  refine lv_iconst (v := 0) hx hb d_Model_read_1 (by decide) ?_
  refine pf_Model_74 hC hK hG d_Model_read_2 (fun M2_1 H locs eM2_1 hG => ?_)
  have hf := sm_of eM2_1 hf
  refine lv_iconst (v := 0) hx hb d_Model_read_5 (by decide) ?_
  refine lv_istore_n hx hb d_Model_read_6 rfl hl (Nat.le_of_ble_eq_true rfl) rfl (fun ls hl => ?_)
  have hl : lv_has ls 3 [(1, .int (0 : Int32)), (0, .ref (sm_a v 68))] := hl
  exact lw_Model_read_7 hC hr hlk hK M2_1 1100 _ _ _ ls hG hl hf
abbrev w_Model_find : List Cond := Cond.code y_Model_find b_Model_find 6 (some .int) :: sm_AW
abbrev rm_Model_find : Room := { frames := 0, cells := 0, slots := 0, locals := 0 }
def j_Model_find_65 (M : sm_M) (y4 : Int64) : Option (Int32) :=
(if (lg_cmp y4 (0 : Int64)) < 0 then
(some (-1 : Int32))
else
(if 0 ≤ (lg_cmp y4 ((4 : Int64) * (Int32.toInt64 (M 68 23)))) then
(some (-1 : Int32))
else
(if (lg_cmp (y4 - y4 / (4 : Int64) * (4 : Int64)) (0 : Int64)) = 0 then
(some ((M 68 21) + (Int64.toInt32 (y4 / (4 : Int64)))))
else
(some (-1 : Int32)))))
def f_Model_find (M : sm_M) (a0 : Int32) : Option (Int32) :=
sm_nm ((Int32.toInt64 a0) - (Int32.toInt64 (M 68 20))) fun x8_1 =>
sm_nm ((Int32.toInt64 a0) - (Int32.toInt64 (M 68 22))) fun x17_2 =>
(if (M 68 25) = 0 then
(some (-1 : Int32))
else
(if (lg_cmp x8_1 (0 : Int64)) < 0 then
j_Model_find_65 M x17_2
else
(if 0 ≤ (lg_cmp x8_1 ((4 : Int64) * (Int32.toInt64 (M 68 21)))) then
j_Model_find_65 M x17_2
else
(if (lg_cmp (x8_1 - x8_1 / (4 : Int64) * (4 : Int64)) (0 : Int64)) = 0 then
(some (Int64.toInt32 (x8_1 / (4 : Int64))))
else
j_Model_find_65 M x17_2))))
set_option maxHeartbeats 4000000 in
set_option maxRecDepth 100000 in
theorem jw_Model_find_65 {p : Program} {l : Launch} {e : Env} {s : State} {m : MethodId} {args : Array Value} {below : List Frame} {meth : Method} {c : Code} {v : sm_V} {o : sm_O} {r : Int32} (hC : CallFix p m c b_Model_find 6 s args w_Model_find R_Model) (hr : meth.sig.returnType = some .int) (hlk : meth.locks = false) (hK : sm_K v s) (M : sm_M) (y4 : Int64) {ls : Array Slot} (hG : sm_G v M o s s.heap []) (hl : lv_has ls 6 [(4, .long y4), (0, .ref (sm_a v 68))]) (hf : j_Model_find_65 M y4 = some r) : W p l e rm_Model_find s m args below meth c s.heap [] 0 0 (MQ below (sm_Qi0 r) args s 0 0 (fun _ => False)) (F0 m 65 ls []) := by
  have hx := hC.1
  have hb := hC.2.1
  unfold j_Model_find_65 at hf
  refine lv_lload hx hb d_Model_find_65 (lv_at hl 0 rfl) ?_
  refine lv_lconst (v := 0) hx hb d_Model_find_67 (by decide) ?_
  refine W.lcmp hx hb d_Model_find_68 ?_
  refine lv_if_lt hx hb d_Model_find_69 rfl (fun h69_5 => ?_) (fun h69_5 => ?_)
  · have hf := sm_t h69_5 hf
    refine lv_iconst (v := -1) hx hb d_Model_find_113 (by decide) ?_
    obtain rfl := Option.some.inj hf
    exact sm_iret0 hC hr hlk d_Model_find_114
  · have hf := sm_f h69_5 hf
    refine lv_lload hx hb d_Model_find_72 (lv_at hl 0 rfl) ?_
    refine lv_ldc2 hx hb hC.2.2.2.1 (hC.2.2.2.2 _ (List.mem_cons_of_mem _ aw_910)) d_Model_find_74 ?_
    refine lv_aload_n hx hb d_Model_find_77 rfl (lv_at hl 1 rfl) ?_
    refine gf_Model_162 hC hK hG d_Model_find_78 ?_
    refine lv_i2l hx hb d_Model_find_81 rfl ?_
    refine lv_lmul hx hb d_Model_find_82 ?_
    refine W.lcmp hx hb d_Model_find_83 ?_
    refine lv_if_ge hx hb d_Model_find_84 rfl (fun h84_6 => ?_) (fun h84_6 => ?_)
    · have hf := sm_t h84_6 hf
      refine lv_iconst (v := -1) hx hb d_Model_find_113 (by decide) ?_
      obtain rfl := Option.some.inj hf
      exact sm_iret0 hC hr hlk d_Model_find_114
    · have hf := sm_f h84_6 hf
      refine lv_lload hx hb d_Model_find_87 (lv_at hl 0 rfl) ?_
      refine lv_ldc2 hx hb hC.2.2.2.1 (hC.2.2.2.2 _ (List.mem_cons_of_mem _ aw_910)) d_Model_find_89 ?_
      refine lv_lrem hx hb d_Model_find_92 (by decide) ?_
      refine lv_lconst (v := 0) hx hb d_Model_find_93 (by decide) ?_
      refine W.lcmp hx hb d_Model_find_94 ?_
      refine lv_if_ne hx hb d_Model_find_95 rfl (fun h95_7 => ?_) (fun h95_7 => ?_)
      · have hf := sm_f h95_7 hf
        refine lv_iconst (v := -1) hx hb d_Model_find_113 (by decide) ?_
        obtain rfl := Option.some.inj hf
        exact sm_iret0 hC hr hlk d_Model_find_114
      · have hf := sm_t h95_7 hf
        refine lv_aload_n hx hb d_Model_find_98 rfl (lv_at hl 1 rfl) ?_
        refine gf_Model_156 hC hK hG d_Model_find_99 ?_
        refine lv_lload hx hb d_Model_find_102 (lv_at hl 0 rfl) ?_
        refine lv_ldc2 hx hb hC.2.2.2.1 (hC.2.2.2.2 _ (List.mem_cons_of_mem _ aw_910)) d_Model_find_104 ?_
        refine lv_ldiv hx hb d_Model_find_107 (by decide) ?_
        refine lv_l2i hx hb d_Model_find_108 rfl ?_
        refine lv_iadd hx hb d_Model_find_109 ?_
        refine lv_goto hx hb d_Model_find_110 rfl ?_
        obtain rfl := Option.some.inj hf
        exact sm_iret0 hC hr hlk d_Model_find_114
set_option maxHeartbeats 4000000 in
set_option maxRecDepth 100000 in
theorem c_Model_find {l : Launch} {v : sm_V} {o : sm_O} {M : sm_M} {a0 : Int32} {r : Int32} (hf : f_Model_find M a0 = some r) : sm_Ri l y_Model_find w_Model_find rm_Model_find v [.ref (sm_a v 68), .int a0] M o r  := by
  refine sm_met (cc := b_Model_find) (nL := 6) (ret := some .int) (plainFor_of_name (by decide)) rfl (Nat.le_of_ble_eq_true rfl) (fun p e s m args below meth c hC hr hlk hK hG ls hl => ?_)
  have hx := hC.1
  have hb := hC.2.1
  have hl : lv_has ls 6 [(0, .ref (sm_a v 68)), (1, .int a0)] := hl
  unfold f_Model_find at hf
  refine lv_iload_n hx hb d_Model_find_0 rfl (lv_at hl 1 rfl) ?_
  refine lv_i2l hx hb d_Model_find_1 rfl ?_
  refine lv_aload_n hx hb d_Model_find_2 rfl (lv_at hl 0 rfl) ?_
  refine gf_Model_153 hC hK hG d_Model_find_3 ?_
  refine lv_i2l hx hb d_Model_find_6 rfl ?_
  refine lv_lsub hx hb d_Model_find_7 ?_
  refine lv_topl (fun x8_1 ex8_1 => ?_)
  have hf := sm_of ex8_1 hf
  refine lv_lstore_n hx hb d_Model_find_8 rfl hl (Nat.le_of_ble_eq_true rfl) rfl (fun ls hl => ?_)
  have hl : lv_has ls 6 [(2, .long x8_1), (0, .ref (sm_a v 68)), (1, .int a0)] := hl
  refine lv_iload_n hx hb d_Model_find_9 rfl (lv_at hl 2 rfl) ?_
  refine lv_i2l hx hb d_Model_find_10 rfl ?_
  refine lv_aload_n hx hb d_Model_find_11 rfl (lv_at hl 1 rfl) ?_
  refine gf_Model_159 hC hK hG d_Model_find_12 ?_
  refine lv_i2l hx hb d_Model_find_15 rfl ?_
  refine lv_lsub hx hb d_Model_find_16 ?_
  refine lv_topl (fun x17_2 ex17_2 => ?_)
  have hf := sm_of ex17_2 hf
  refine lv_lstore hx hb d_Model_find_17 hl (Nat.le_of_ble_eq_true rfl) rfl (fun ls hl => ?_)
  have hl : lv_has ls 6 [(4, .long x17_2), (2, .long x8_1), (0, .ref (sm_a v 68)), (1, .int a0)] := hl
  have hl : lv_has ls 6 [(4, .long x17_2), (2, .long x8_1), (0, .ref (sm_a v 68))] := lv_sub hl [0, 1, 2] rfl
  refine lv_aload_n hx hb d_Model_find_19 rfl (lv_at hl 2 rfl) ?_
  refine gf_Model_168 hC hK hG d_Model_find_20 ?_
  refine lv_if_ne hx hb d_Model_find_23 rfl (fun h23_3 => ?_) (fun h23_3 => ?_)
  · have hf := sm_f h23_3 hf
    refine lv_lload_n hx hb d_Model_find_28 rfl (lv_at hl 1 rfl) ?_
    refine lv_lconst (v := 0) hx hb d_Model_find_29 (by decide) ?_
    refine W.lcmp hx hb d_Model_find_30 ?_
    refine lv_if_lt hx hb d_Model_find_31 rfl (fun h31_4 => ?_) (fun h31_4 => ?_)
    · have hf := sm_t h31_4 hf
      exact jw_Model_find_65 hC hr hlk hK M x17_2 hG (lv_sub hl [0, 2] rfl) hf
    · have hf := sm_f h31_4 hf
      refine lv_lload_n hx hb d_Model_find_34 rfl (lv_at hl 1 rfl) ?_
      refine lv_ldc2 hx hb hC.2.2.2.1 (hC.2.2.2.2 _ (List.mem_cons_of_mem _ aw_910)) d_Model_find_35 ?_
      refine lv_aload_n hx hb d_Model_find_38 rfl (lv_at hl 2 rfl) ?_
      refine gf_Model_156 hC hK hG d_Model_find_39 ?_
      refine lv_i2l hx hb d_Model_find_42 rfl ?_
      refine lv_lmul hx hb d_Model_find_43 ?_
      refine W.lcmp hx hb d_Model_find_44 ?_
      refine lv_if_ge hx hb d_Model_find_45 rfl (fun h45_8 => ?_) (fun h45_8 => ?_)
      · have hf := sm_t h45_8 hf
        exact jw_Model_find_65 hC hr hlk hK M x17_2 hG (lv_sub hl [0, 2] rfl) hf
      · have hf := sm_f h45_8 hf
        refine lv_lload_n hx hb d_Model_find_48 rfl (lv_at hl 1 rfl) ?_
        refine lv_ldc2 hx hb hC.2.2.2.1 (hC.2.2.2.2 _ (List.mem_cons_of_mem _ aw_910)) d_Model_find_49 ?_
        refine lv_lrem hx hb d_Model_find_52 (by decide) ?_
        refine lv_lconst (v := 0) hx hb d_Model_find_53 (by decide) ?_
        refine W.lcmp hx hb d_Model_find_54 ?_
        refine lv_if_ne hx hb d_Model_find_55 rfl (fun h55_9 => ?_) (fun h55_9 => ?_)
        · have hf := sm_f h55_9 hf
          exact jw_Model_find_65 hC hr hlk hK M x17_2 hG (lv_sub hl [0, 2] rfl) hf
        · have hf := sm_t h55_9 hf
          refine lv_lload_n hx hb d_Model_find_58 rfl (lv_at hl 1 rfl) ?_
          refine lv_ldc2 hx hb hC.2.2.2.1 (hC.2.2.2.2 _ (List.mem_cons_of_mem _ aw_910)) d_Model_find_59 ?_
          refine lv_ldiv hx hb d_Model_find_62 (by decide) ?_
          refine lv_l2i hx hb d_Model_find_63 rfl ?_
          obtain rfl := Option.some.inj hf
          exact sm_iret0 hC hr hlk d_Model_find_64
  · have hf := sm_t h23_3 hf
    refine lv_iconst (v := -1) hx hb d_Model_find_26 (by decide) ?_
    obtain rfl := Option.some.inj hf
    exact sm_iret0 hC hr hlk d_Model_find_27
abbrev w_Model_set : List Cond := Cond.code y_Model_set b_Model_set 3 (none) :: sm_AW
abbrev rm_Model_set : Room := { frames := 0, cells := 0, slots := 0, locals := 0 }
def f_Model_set (M : sm_M) (a0 : Int32) (a1 : Int32) : Option (sm_M) :=
(if a0 = 0 then
sm_gd a0 32 (
sm_nm (sm_up M 88 (Int32.toNatClampNeg a0) (0 : Int32)) fun M14_5 =>
(some M14_5))
else
sm_gd a0 32 (
sm_nm (sm_up M 88 (Int32.toNatClampNeg a0) a1) fun M14_3 =>
(some M14_3)))
set_option maxHeartbeats 4000000 in
set_option maxRecDepth 100000 in
theorem c_Model_set {l : Launch} {v : sm_V} {o : sm_O} {M : sm_M} {a0 : Int32} {a1 : Int32} {M' : sm_M} (hf : f_Model_set M a0 a1 = some M') : sm_Cv l y_Model_set w_Model_set rm_Model_set v [.ref (sm_a v 68), .int a0, .int a1] M o M' := by
  refine sm_met (cc := b_Model_set) (nL := 3) (ret := none) (plainFor_of_name (by decide)) rfl (Nat.le_of_ble_eq_true rfl) (fun p e s m args below meth c hC hr hlk hK hG ls hl => ?_)
  have hx := hC.1
  have hb := hC.2.1
  have hl : lv_has ls 3 [(0, .ref (sm_a v 68)), (1, .int a0), (2, .int a1)] := hl
  unfold f_Model_set at hf
  refine lv_aload_n hx hb d_Model_set_0 rfl (lv_at hl 0 rfl) ?_
  refine gf_Model_68 hC hK hG d_Model_set_1 ?_
  refine lv_iload_n hx hb d_Model_set_4 rfl (lv_at hl 1 rfl) ?_
  refine lv_iload_n hx hb d_Model_set_5 rfl (lv_at hl 1 rfl) ?_
  refine lv_if_ne hx hb d_Model_set_6 rfl (fun h6_1 => ?_) (fun h6_1 => ?_)
  · have hf := sm_f h6_1 hf
    refine lv_iload_n hx hb d_Model_set_13 rfl (lv_at hl 2 rfl) ?_
    obtain ⟨h14_2, hf⟩ := sm_of_gd hf
    refine sm_iast hC hK hG (by decide) rfl h14_2 d_Model_set_14 (fun M14_3 H locs eM14_3 hG => ?_)
    have hf := sm_of eM14_3 hf
    obtain rfl := Option.some.inj hf
    exact sm_vret hC hr hlk hG d_Model_set_15
  · have hf := sm_t h6_1 hf
    refine lv_iconst (v := 0) hx hb d_Model_set_9 (by decide) ?_
    refine lv_goto hx hb d_Model_set_10 rfl ?_
    obtain ⟨h14_4, hf⟩ := sm_of_gd hf
    refine sm_iast hC hK hG (by decide) rfl h14_4 d_Model_set_14 (fun M14_5 H locs eM14_5 hG => ?_)
    have hf := sm_of eM14_5 hf
    obtain rfl := Option.some.inj hf
    exact sm_vret hC hr hlk hG d_Model_set_15
abbrev w_Model_reckoned : List Cond := Cond.code y_Model_reckoned b_Model_reckoned 4 (some .int) :: sm_AW
abbrev rm_Model_reckoned : Room := { frames := 0, cells := 0, slots := 0, locals := 0 }
def f_Model_reckoned (a0 : Int32) (a1 : Int32) (a2 : Int32) : Option (Int32) :=
(if a0 = 3 then
(some (a1 + a2))
else
(if a0 = 4 then
(some (a1 - a2))
else
(if a0 = 5 then
(some (a1 &&& a2))
else
(if a0 = 6 then
(some (a1 ||| a2))
else
(if a0 = 7 then
(some (a1 ^^^ a2))
else
(if a0 = 8 then
(some (a1 <<< ((a2 &&& (31 : Int32)) &&& 31)))
else
(if a0 = 9 then
(some (a1 >>> ((a2 &&& (31 : Int32)) &&& 31)))
else
(if a2 ≤ a1 then
(some (0 : Int32))
else
(some (1 : Int32))))))))))
set_option maxHeartbeats 4000000 in
set_option maxRecDepth 100000 in
theorem c_Model_reckoned {l : Launch} {v : sm_V} {o : sm_O} {M : sm_M} {a0 : Int32} {a1 : Int32} {a2 : Int32} {r : Int32} (hf : f_Model_reckoned a0 a1 a2 = some r) : sm_Ri l y_Model_reckoned w_Model_reckoned rm_Model_reckoned v [.ref (sm_a v 68), .int a0, .int a1, .int a2] M o r  := by
  refine sm_met (cc := b_Model_reckoned) (nL := 4) (ret := some .int) (plainFor_of_name (by decide)) rfl (Nat.le_of_ble_eq_true rfl) (fun p e s m args below meth c hC hr hlk hK hG ls hl => ?_)
  have hx := hC.1
  have hb := hC.2.1
  have hl : lv_has ls 4 [(0, .ref (sm_a v 68)), (1, .int a0), (2, .int a1), (3, .int a2)] := hl
  unfold f_Model_reckoned at hf
  refine lv_iload_n hx hb d_Model_reckoned_0 rfl (lv_at hl 1 rfl) ?_
  by_cases h1_1 : a0 = 3
  · have hf := sm_t h1_1 hf
    refine lv_tableIn (tgt := 44) hx hb d_Model_reckoned_1 (by rw [h1_1]; decide) (by rw [h1_1]; decide) (by rw [h1_1]; rfl) rfl ?_
    refine lv_iload_n hx hb d_Model_reckoned_44 rfl (lv_at hl 2 rfl) ?_
    refine lv_iload_n hx hb d_Model_reckoned_45 rfl (lv_at hl 3 rfl) ?_
    refine lv_iadd hx hb d_Model_reckoned_46 ?_
    obtain rfl := Option.some.inj hf
    exact sm_iret0 hC hr hlk d_Model_reckoned_47
  have hf := sm_f h1_1 hf
  by_cases h1_2 : a0 = 4
  · have hf := sm_t h1_2 hf
    refine lv_tableIn (tgt := 48) hx hb d_Model_reckoned_1 (by rw [h1_2]; decide) (by rw [h1_2]; decide) (by rw [h1_2]; rfl) rfl ?_
    refine lv_iload_n hx hb d_Model_reckoned_48 rfl (lv_at hl 2 rfl) ?_
    refine lv_iload_n hx hb d_Model_reckoned_49 rfl (lv_at hl 3 rfl) ?_
    refine lv_isub hx hb d_Model_reckoned_50 ?_
    obtain rfl := Option.some.inj hf
    exact sm_iret0 hC hr hlk d_Model_reckoned_51
  have hf := sm_f h1_2 hf
  by_cases h1_3 : a0 = 5
  · have hf := sm_t h1_3 hf
    refine lv_tableIn (tgt := 52) hx hb d_Model_reckoned_1 (by rw [h1_3]; decide) (by rw [h1_3]; decide) (by rw [h1_3]; rfl) rfl ?_
    refine lv_iload_n hx hb d_Model_reckoned_52 rfl (lv_at hl 2 rfl) ?_
    refine lv_iload_n hx hb d_Model_reckoned_53 rfl (lv_at hl 3 rfl) ?_
    refine lv_iand hx hb d_Model_reckoned_54 ?_
    obtain rfl := Option.some.inj hf
    exact sm_iret0 hC hr hlk d_Model_reckoned_55
  have hf := sm_f h1_3 hf
  by_cases h1_4 : a0 = 6
  · have hf := sm_t h1_4 hf
    refine lv_tableIn (tgt := 56) hx hb d_Model_reckoned_1 (by rw [h1_4]; decide) (by rw [h1_4]; decide) (by rw [h1_4]; rfl) rfl ?_
    refine lv_iload_n hx hb d_Model_reckoned_56 rfl (lv_at hl 2 rfl) ?_
    refine lv_iload_n hx hb d_Model_reckoned_57 rfl (lv_at hl 3 rfl) ?_
    refine lv_ior hx hb d_Model_reckoned_58 ?_
    obtain rfl := Option.some.inj hf
    exact sm_iret0 hC hr hlk d_Model_reckoned_59
  have hf := sm_f h1_4 hf
  by_cases h1_5 : a0 = 7
  · have hf := sm_t h1_5 hf
    refine lv_tableIn (tgt := 60) hx hb d_Model_reckoned_1 (by rw [h1_5]; decide) (by rw [h1_5]; decide) (by rw [h1_5]; rfl) rfl ?_
    refine lv_iload_n hx hb d_Model_reckoned_60 rfl (lv_at hl 2 rfl) ?_
    refine lv_iload_n hx hb d_Model_reckoned_61 rfl (lv_at hl 3 rfl) ?_
    refine lv_ixor hx hb d_Model_reckoned_62 ?_
    obtain rfl := Option.some.inj hf
    exact sm_iret0 hC hr hlk d_Model_reckoned_63
  have hf := sm_f h1_5 hf
  by_cases h1_6 : a0 = 8
  · have hf := sm_t h1_6 hf
    refine lv_tableIn (tgt := 64) hx hb d_Model_reckoned_1 (by rw [h1_6]; decide) (by rw [h1_6]; decide) (by rw [h1_6]; rfl) rfl ?_
    refine lv_iload_n hx hb d_Model_reckoned_64 rfl (lv_at hl 2 rfl) ?_
    refine lv_iload_n hx hb d_Model_reckoned_65 rfl (lv_at hl 3 rfl) ?_
    refine lv_bipush (v := 31) hx hb d_Model_reckoned_66 (by decide) ?_
    refine lv_iand hx hb d_Model_reckoned_68 ?_
    refine lv_ishl hx hb d_Model_reckoned_69 ?_
    obtain rfl := Option.some.inj hf
    exact sm_iret0 hC hr hlk d_Model_reckoned_70
  have hf := sm_f h1_6 hf
  by_cases h1_7 : a0 = 9
  · have hf := sm_t h1_7 hf
    refine lv_tableIn (tgt := 71) hx hb d_Model_reckoned_1 (by rw [h1_7]; decide) (by rw [h1_7]; decide) (by rw [h1_7]; rfl) rfl ?_
    refine lv_iload_n hx hb d_Model_reckoned_71 rfl (lv_at hl 2 rfl) ?_
    refine lv_iload_n hx hb d_Model_reckoned_72 rfl (lv_at hl 3 rfl) ?_
    refine lv_bipush (v := 31) hx hb d_Model_reckoned_73 (by decide) ?_
    refine lv_iand hx hb d_Model_reckoned_75 ?_
    refine lv_ishr hx hb d_Model_reckoned_76 ?_
    obtain rfl := Option.some.inj hf
    exact sm_iret0 hC hr hlk d_Model_reckoned_77
  have hf := sm_f h1_7 hf
  refine lv_tableOut (tgt := 78) hx hb d_Model_reckoned_1 (by have := lv_neT (a := 3) h1_1 rfl; have := lv_neT (a := 4) h1_2 rfl; have := lv_neT (a := 5) h1_3 rfl; have := lv_neT (a := 6) h1_4 rfl; have := lv_neT (a := 7) h1_5 rfl; have := lv_neT (a := 8) h1_6 rfl; have := lv_neT (a := 9) h1_7 rfl; omega) rfl ?_
  refine lv_iload_n hx hb d_Model_reckoned_78 rfl (lv_at hl 2 rfl) ?_
  refine lv_iload_n hx hb d_Model_reckoned_79 rfl (lv_at hl 3 rfl) ?_
  refine lv_icmp_ge hx hb d_Model_reckoned_80 rfl (fun h80_8 => ?_) (fun h80_8 => ?_)
  · have hf := sm_t h80_8 hf
    refine lv_iconst (v := 0) hx hb d_Model_reckoned_87 (by decide) ?_
    obtain rfl := Option.some.inj hf
    exact sm_iret0 hC hr hlk d_Model_reckoned_88
  · have hf := sm_f h80_8 hf
    refine lv_iconst (v := 1) hx hb d_Model_reckoned_83 (by decide) ?_
    refine lv_goto hx hb d_Model_reckoned_84 rfl ?_
    obtain rfl := Option.some.inj hf
    exact sm_iret0 hC hr hlk d_Model_reckoned_88
theorem ca_Model_179 {p : Program} {l : Launch} {e : Env} {R : Room} {s : State} {m : MethodId} {args : Array Value} {below : List Frame} {meth : Method} {c : Code} {H : Heap} {locs : List Loc} {cells slots : Nat} {Q : State → Prop} {cc : ByteArray} {nL pc : Nat} {ls : Array Slot} {rest : List Value} {w0 : Cond} {v : sm_V} {M : sm_M} {o : sm_O} {x0 : Int32} {r : Int32} (hC : CallFix p m c cc nL s args (w0 :: sm_AW) R_Model) (hK : sm_K v s) (hG : sm_G v M o s H locs) (hM : sm_Ri l y_Model_find w_Model_find rm_Model_find v [.ref (sm_a v 68), .int x0] M o r) (hsz : ls.size = nL) (hR : rm_Model_find.frames + 1 ≤ R.frames ∧ 8 + (6 + 11) + rm_Model_find.locals ≤ R.locals) (hcs : cells + 0 ≤ R.cells ∧ slots + 0 ≤ R.slots) (hW : (rest.map fun v => v.category).sum ≤ 8) (hdg : decode cc pc = .ok (.invokevirtual 179, 3))
    (kk : W p l e R s m args below meth c H locs cells slots Q (F0 m (pc + 3) ls (.int r :: rest))) : W p l e R s m args below meth c H locs cells slots Q (F0 m pc ls (.int x0 :: .ref (sm_a v 68) :: rest)) :=
  sm_calli0 (va_runV (C := R_Model) (As := [.int x0]) (rest := rest) hC hM (cwV 1 hC.2.2.2.2 (sm_good (sm_inV aw_906 aw_908 as_41 aw_7 aw_909)) rfl rfl rfl (by decide +kernel) hR) (sm_preV hK hG (by decide) rfl rfl) rfl rfl hsz rfl (lv_room hW) hdg hcs) kk
theorem ca_Model_182 {p : Program} {l : Launch} {e : Env} {R : Room} {s : State} {m : MethodId} {args : Array Value} {below : List Frame} {meth : Method} {c : Code} {H : Heap} {locs : List Loc} {cells slots : Nat} {Q : State → Prop} {cc : ByteArray} {nL pc : Nat} {ls : Array Slot} {rest : List Value} {w0 : Cond} {v : sm_V} {M : sm_M} {o : sm_O} {x0 : Int32} {x1 : Int32} {M' : sm_M} (hC : CallFix p m c cc nL s args (w0 :: sm_AW) R_Model) (hK : sm_K v s) (hG : sm_G v M o s H locs) (hM : sm_Cv l y_Model_set w_Model_set rm_Model_set v [.ref (sm_a v 68), .int x0, .int x1] M o M') (hsz : ls.size = nL) (hR : rm_Model_set.frames + 1 ≤ R.frames ∧ 8 + (3 + 11) + rm_Model_set.locals ≤ R.locals) (hcs : cells + 0 ≤ R.cells ∧ slots + 0 ≤ R.slots) (hW : (rest.map fun v => v.category).sum ≤ 8) (hdg : decode cc pc = .ok (.invokevirtual 182, 3))
    (kk : ∀ (H : Heap) (locs : List Loc), sm_G v M' o s H locs → W p l e R s m args below meth c H locs cells slots Q (F0 m (pc + 3) ls (rest))) : W p l e R s m args below meth c H locs cells slots Q (F0 m pc ls (.int x1 :: .int x0 :: .ref (sm_a v 68) :: rest)) :=
  sm_callv (va_runV (C := R_Model) (As := [.int x0, .int x1]) (rest := rest) hC hM (cwV 2 hC.2.2.2.2 (sm_good (sm_inV aw_911 aw_913 as_42 aw_7 aw_914)) rfl rfl rfl (by decide +kernel) hR) (sm_preV hK hG (by decide) rfl rfl) rfl rfl hsz rfl (lv_room hW) hdg hcs) hG kk
theorem ca_Model_186 {p : Program} {l : Launch} {e : Env} {R : Room} {s : State} {m : MethodId} {args : Array Value} {below : List Frame} {meth : Method} {c : Code} {H : Heap} {locs : List Loc} {cells slots : Nat} {Q : State → Prop} {cc : ByteArray} {nL pc : Nat} {ls : Array Slot} {rest : List Value} {w0 : Cond} {v : sm_V} {M : sm_M} {o : sm_O} {x0 : Int32} {x1 : Int32} {x2 : Int32} {r : Int32} (hC : CallFix p m c cc nL s args (w0 :: sm_AW) R_Model) (hK : sm_K v s) (hG : sm_G v M o s H locs) (hM : sm_Ri l y_Model_reckoned w_Model_reckoned rm_Model_reckoned v [.ref (sm_a v 68), .int x0, .int x1, .int x2] M o r) (hsz : ls.size = nL) (hR : rm_Model_reckoned.frames + 1 ≤ R.frames ∧ 8 + (4 + 11) + rm_Model_reckoned.locals ≤ R.locals) (hcs : cells + 0 ≤ R.cells ∧ slots + 0 ≤ R.slots) (hW : (rest.map fun v => v.category).sum ≤ 8) (hdg : decode cc pc = .ok (.invokevirtual 186, 3))
    (kk : W p l e R s m args below meth c H locs cells slots Q (F0 m (pc + 3) ls (.int r :: rest))) : W p l e R s m args below meth c H locs cells slots Q (F0 m pc ls (.int x2 :: .int x1 :: .int x0 :: .ref (sm_a v 68) :: rest)) :=
  sm_calli0 (va_runV (C := R_Model) (As := [.int x0, .int x1, .int x2]) (rest := rest) hC hM (cwV 3 hC.2.2.2.2 (sm_good (sm_inV aw_915 aw_917 as_43 aw_7 aw_918)) rfl rfl rfl (by decide +kernel) hR) (sm_preV hK hG (by decide) rfl rfl) rfl rfl hsz rfl (lv_room hW) hdg hcs) kk
abbrev w_Model_step : List Cond := Cond.code y_Model_step b_Model_step 11 (none) :: sm_AW
abbrev rm_Model_step : Room := { frames := 1, cells := 0, slots := 0, locals := 25 }
def j_Model_step_172 (M : sm_M) (y10 : Int32) (y9 : Int32) (y6 : Int32) (y4 : Int32) (y3 : Int32) : Option (sm_M) :=
(if y3 = (12 : Int32) then
sm_gd y10 250 (
sm_nm (sm_up M 87 (Int32.toNatClampNeg y10) y6) fun M186_34 =>
sm_nm (sm_up M186_34 68 26 y9) fun M438_35 =>
(some M438_35))
else
sm_gd y10 250 (
sm_b1 (f_Model_set M y4 (M 87 (Int32.toNatClampNeg y10))) fun M200_31 =>
sm_nm (sm_up M200_31 68 26 y9) fun M438_32 =>
(some M438_32)))
def j_Model_step_134 (M : sm_M) (y9 : Int32) (y8 : Int32) (y7 : Int32) (y6 : Int32) (y4 : Int32) (y3 : Int32) : Option (sm_M) :=
sm_b1 (f_Model_find M (y7 + y8)) fun r140_22 =>
(if r140_22 = (-1 : Int32) then
sm_nm (sm_up M 68 25 (3 : Int32)) fun M168_25 =>
(some M168_25)
else
(if y3 = (12 : Int32) then
(if (M 68 21) ≤ r140_22 then
j_Model_step_172 M r140_22 y9 y6 y4 y3
else
sm_nm (sm_up M 68 25 (3 : Int32)) fun M168_37 =>
(some M168_37))
else
j_Model_step_172 M r140_22 y9 y6 y4 y3))
def j_Model_step_310 (M : sm_M) (y9 : Int32) (y8 : Int32) (y7 : Int32) (y4 : Int32) (y3 : Int32) (y2 : Int32) : Option (sm_M) :=
sm_b1 (f_Model_set M y4 y9) fun M315_43 =>
(if y3 = (16 : Int32) then
sm_nm ((M315_43 68 26) + ((2 : Int32) * (y2 >>> ((10 : Int32) &&& 31)))) fun x343_47 =>
sm_nm (sm_up M315_43 68 26 x343_47) fun M438_48 =>
(some M438_48)
else
sm_nm (y7 + y8) fun x343_45 =>
sm_nm (sm_up M315_43 68 26 x343_45) fun M438_46 =>
(some M438_46))
def j_Model_step_298 (M : sm_M) (y9 : Int32) (y8 : Int32) (y7 : Int32) (y6 : Int32) (y4 : Int32) (y3 : Int32) (y2 : Int32) : Option (sm_M) :=
(if y3 = (16 : Int32) then
j_Model_step_310 M y9 y8 y7 y4 y3 y2
else
(if y3 = (17 : Int32) then
j_Model_step_310 M y9 y8 y7 y4 y3 y2
else
(if y3 = (18 : Int32) then
sm_gd ((M 68 29) - (M 68 29) / (16 : Int32) * (16 : Int32)) 16 (
sm_nm (sm_up M 89 (Int32.toNatClampNeg ((M 68 29) - (M 68 29) / (16 : Int32) * (16 : Int32))) y6) fun M367_70 =>
sm_nm (sm_up M367_70 68 29 ((M367_70 68 29) + (1 : Int32))) fun M375_71 =>
sm_nm (sm_up M375_71 68 26 y9) fun M438_72 =>
(some M438_72))
else
(if y3 = (1 : Int32) then
sm_b1 (f_Model_set M y4 ((y2 >>> ((12 : Int32) &&& 31)) * (4096 : Int32))) fun M432_67 =>
sm_nm (sm_up M432_67 68 26 y9) fun M438_68 =>
(some M438_68)
else
(if y3 = (2 : Int32) then
sm_b1 (f_Model_set M y4 (y7 + y8)) fun M432_63 =>
sm_nm (sm_up M432_63 68 26 y9) fun M438_64 =>
(some M438_64)
else
sm_gd ((y2 >>> ((15 : Int32) &&& 31)) &&& (31 : Int32)) 32 (
sm_b1 (f_Model_reckoned y3 y7 (M 88 (Int32.toNatClampNeg ((y2 >>> ((15 : Int32) &&& 31)) &&& (31 : Int32))))) fun r429_55 =>
sm_b1 (f_Model_set M y4 r429_55) fun M432_59 =>
sm_nm (sm_up M432_59 68 26 y9) fun M438_60 =>
(some M438_60)))))))
def j_Model_step_272 (M : sm_M) (y9 : Int32) (y8 : Int32) (z0 : Int32) : Option (sm_M) :=
(if z0 = 0 then
sm_nm (sm_up M 68 26 y9) fun M438_78 =>
(some M438_78)
else
sm_nm ((M 68 26) + ((2 : Int32) * y8)) fun x293_79 =>
sm_nm (sm_up M 68 26 x293_79) fun M438_80 =>
(some M438_80))
def j_Model_step_43 (M : sm_M) (z0 : Int32) : Option (sm_M) :=
sm_nm (z0 &&& (31 : Int32)) fun x48_6 =>
sm_nm ((z0 >>> ((5 : Int32) &&& 31)) &&& (31 : Int32)) fun x55_7 =>
sm_nm ((z0 >>> ((10 : Int32) &&& 31)) &&& (31 : Int32)) fun x64_8 =>
sm_gd x55_7 32 (
sm_nm (M 88 (Int32.toNatClampNeg x55_7)) fun x73_10 =>
sm_gd x64_8 32 (
sm_nm (M 88 (Int32.toNatClampNeg x64_8)) fun x82_12 =>
sm_nm (z0 >>> ((20 : Int32) &&& 31)) fun x88_13 =>
(if x48_6 = 0 then
(if x48_6 = 0 then
sm_nm (sm_up M 68 25 (2 : Int32)) fun M110_17 =>
(some M110_17)
else
sm_nm (sm_up M 68 25 (3 : Int32)) fun M110_16 =>
(some M110_16))
else
(if x48_6 ≤ (18 : Int32) then
sm_nm ((M 68 26) + (4 : Int32)) fun x120_19 =>
(if x48_6 = (11 : Int32) then
j_Model_step_134 M x120_19 x88_13 x82_12 x73_10 x55_7 x48_6
else
(if x48_6 = (12 : Int32) then
j_Model_step_134 M x120_19 x88_13 x82_12 x73_10 x55_7 x48_6
else
(if x48_6 < (13 : Int32) then
j_Model_step_298 M x120_19 x88_13 x82_12 x73_10 x55_7 x48_6 z0
else
(if (15 : Int32) < x48_6 then
j_Model_step_298 M x120_19 x88_13 x82_12 x73_10 x55_7 x48_6 z0
else
(if x48_6 = (13 : Int32) then
(if x73_10 = x82_12 then
j_Model_step_272 M x120_19 x88_13 (1 : Int32)
else
j_Model_step_272 M x120_19 x88_13 (0 : Int32))
else
(if x48_6 = (14 : Int32) then
(if x73_10 = x82_12 then
j_Model_step_272 M x120_19 x88_13 (0 : Int32)
else
j_Model_step_272 M x120_19 x88_13 (1 : Int32))
else
(if x82_12 ≤ x73_10 then
j_Model_step_272 M x120_19 x88_13 (0 : Int32)
else
j_Model_step_272 M x120_19 x88_13 (1 : Int32))))))))
else
(if x48_6 = 0 then
sm_nm (sm_up M 68 25 (2 : Int32)) fun M110_85 =>
(some M110_85)
else
sm_nm (sm_up M 68 25 (3 : Int32)) fun M110_84 =>
(some M110_84))))))
def j_Model_step_32 (M : sm_M) : Option (sm_M) :=
j_Model_step_43 M (31 : Int32)
def f_Model_step (M : sm_M) : Option (sm_M) :=
sm_nm (sm_up M 68 27 ((M 68 27) + (1 : Int32))) fun M7_1 =>
sm_b1 (f_Model_find M7_1 (M7_1 68 26)) fun r15_3 =>
(if r15_3 = (-1 : Int32) then
j_Model_step_32 M7_1
else
(if r15_3 < (M7_1 68 21) then
sm_gd r15_3 250 (
j_Model_step_43 M7_1 (M7_1 87 (Int32.toNatClampNeg r15_3)))
else
j_Model_step_32 M7_1))
set_option maxHeartbeats 4000000 in
set_option maxRecDepth 100000 in
theorem jw_Model_step_172 {p : Program} {l : Launch} {e : Env} {s : State} {m : MethodId} {args : Array Value} {below : List Frame} {meth : Method} {c : Code} {v : sm_V} {o : sm_O} {M' : sm_M} (hC : CallFix p m c b_Model_step 11 s args w_Model_step R_Model) (hr : meth.sig.returnType = none) (hlk : meth.locks = false) (hK : sm_K v s) (M : sm_M) (y10 : Int32) (y9 : Int32) (y6 : Int32) (y4 : Int32) (y3 : Int32) {H : Heap} {locs : List Loc} {ls : Array Slot} (hG : sm_G v M o s H locs) (hl : lv_has ls 11 [(10, .int y10), (9, .int y9), (6, .int y6), (4, .int y4), (3, .int y3), (0, .ref (sm_a v 68))]) (hf : j_Model_step_172 M y10 y9 y6 y4 y3 = some M') : W p l e rm_Model_step s m args below meth c H locs 0 0 (MQ below (sm_Qv v M' o) args s 0 0 (sm_A v)) (F0 m 172 ls []) := by
  have hx := hC.1
  have hb := hC.2.1
  unfold j_Model_step_172 at hf
  refine lv_iload_n hx hb d_Model_step_172 rfl (lv_at hl 4 rfl) ?_
  refine lv_bipush (v := 12) hx hb d_Model_step_173 (by decide) ?_
  refine lv_icmp_ne hx hb d_Model_step_175 rfl (fun h175_27 => ?_) (fun h175_27 => ?_)
  · have hf := sm_f h175_27 hf
    refine lv_aload_n hx hb d_Model_step_190 rfl (lv_at hl 5 rfl) ?_
    refine lv_iload hx hb d_Model_step_191 (lv_at hl 3 rfl) ?_
    refine lv_aload_n hx hb d_Model_step_193 rfl (lv_at hl 5 rfl) ?_
    refine gf_Model_65 hC hK hG d_Model_step_194 ?_
    refine lv_iload hx hb d_Model_step_197 (lv_at hl 0 rfl) ?_
    obtain ⟨h199_28, hf⟩ := sm_of_gd hf
    refine sm_iald hC hK hG (by decide) rfl h199_28 d_Model_step_199 ?_
    obtain ⟨M200_31, hc200_29, hf⟩ := sm_of_b1 hf
    refine ca_Model_182 hC hK hG (c_Model_set hc200_29) hl.1 ⟨Nat.le_of_ble_eq_true rfl, Nat.le_of_ble_eq_true rfl⟩ ⟨Nat.zero_le _, Nat.zero_le _⟩ (Nat.le_of_ble_eq_true rfl) d_Model_step_200 (fun H locs hG => ?_)
    refine lv_goto hx hb d_Model_step_203 rfl ?_
    refine lv_aload_n hx hb d_Model_step_435 rfl (lv_at hl 5 rfl) ?_
    refine lv_iload hx hb d_Model_step_436 (lv_at hl 1 rfl) ?_
    refine pf_Model_165 hC hK hG d_Model_step_438 (fun M438_32 H locs eM438_32 hG => ?_)
    have hf := sm_of eM438_32 hf
    obtain rfl := Option.some.inj hf
    exact sm_vret hC hr hlk hG d_Model_step_441
  · have hf := sm_t h175_27 hf
    refine lv_aload_n hx hb d_Model_step_178 rfl (lv_at hl 5 rfl) ?_
    refine gf_Model_65 hC hK hG d_Model_step_179 ?_
    refine lv_iload hx hb d_Model_step_182 (lv_at hl 0 rfl) ?_
    refine lv_iload hx hb d_Model_step_184 (lv_at hl 2 rfl) ?_
    obtain ⟨h186_33, hf⟩ := sm_of_gd hf
    refine sm_iast hC hK hG (by decide) rfl h186_33 d_Model_step_186 (fun M186_34 H locs eM186_34 hG => ?_)
    have hf := sm_of eM186_34 hf
    refine lv_goto hx hb d_Model_step_187 rfl ?_
    refine lv_goto hx hb d_Model_step_203 rfl ?_
    refine lv_aload_n hx hb d_Model_step_435 rfl (lv_at hl 5 rfl) ?_
    refine lv_iload hx hb d_Model_step_436 (lv_at hl 1 rfl) ?_
    refine pf_Model_165 hC hK hG d_Model_step_438 (fun M438_35 H locs eM438_35 hG => ?_)
    have hf := sm_of eM438_35 hf
    obtain rfl := Option.some.inj hf
    exact sm_vret hC hr hlk hG d_Model_step_441
set_option maxHeartbeats 4000000 in
set_option maxRecDepth 100000 in
theorem jw_Model_step_134 {p : Program} {l : Launch} {e : Env} {s : State} {m : MethodId} {args : Array Value} {below : List Frame} {meth : Method} {c : Code} {v : sm_V} {o : sm_O} {M' : sm_M} (hC : CallFix p m c b_Model_step 11 s args w_Model_step R_Model) (hr : meth.sig.returnType = none) (hlk : meth.locks = false) (hK : sm_K v s) (M : sm_M) (y9 : Int32) (y8 : Int32) (y7 : Int32) (y6 : Int32) (y4 : Int32) (y3 : Int32) {H : Heap} {locs : List Loc} {ls : Array Slot} (hG : sm_G v M o s H locs) (hl : lv_has ls 11 [(9, .int y9), (8, .int y8), (7, .int y7), (6, .int y6), (4, .int y4), (3, .int y3), (0, .ref (sm_a v 68))]) (hf : j_Model_step_134 M y9 y8 y7 y6 y4 y3 = some M') : W p l e rm_Model_step s m args below meth c H locs 0 0 (MQ below (sm_Qv v M' o) args s 0 0 (sm_A v)) (F0 m 134 ls []) := by
  have hx := hC.1
  have hb := hC.2.1
  unfold j_Model_step_134 at hf
  refine lv_aload_n hx hb d_Model_step_134 rfl (lv_at hl 6 rfl) ?_
  refine lv_iload hx hb d_Model_step_135 (lv_at hl 2 rfl) ?_
  refine lv_iload hx hb d_Model_step_137 (lv_at hl 1 rfl) ?_
  refine lv_iadd hx hb d_Model_step_139 ?_
  obtain ⟨r140_22, hc140_21, hf⟩ := sm_of_b1 hf
  refine ca_Model_179 hC hK hG (c_Model_find hc140_21) hl.1 ⟨Nat.le_of_ble_eq_true rfl, Nat.le_of_ble_eq_true rfl⟩ ⟨Nat.zero_le _, Nat.zero_le _⟩ (Nat.le_of_ble_eq_true rfl) d_Model_step_140 ?_
  refine lv_istore hx hb d_Model_step_143 hl (Nat.le_of_ble_eq_true rfl) rfl (fun ls hl => ?_)
  have hl : lv_has ls 11 [(10, .int r140_22), (9, .int y9), (8, .int y8), (7, .int y7), (6, .int y6), (4, .int y4), (3, .int y3), (0, .ref (sm_a v 68))] := hl
  have hl : lv_has ls 11 [(10, .int r140_22), (9, .int y9), (6, .int y6), (4, .int y4), (3, .int y3), (0, .ref (sm_a v 68))] := lv_sub hl [0, 1, 4, 5, 6, 7] rfl
  refine lv_iload hx hb d_Model_step_145 (lv_at hl 0 rfl) ?_
  refine lv_iconst (v := -1) hx hb d_Model_step_147 (by decide) ?_
  refine lv_icmp_eq hx hb d_Model_step_148 rfl (fun h148_24 => ?_) (fun h148_24 => ?_)
  · have hf := sm_t h148_24 hf
    refine lv_aload_n hx hb d_Model_step_166 rfl (lv_at hl 5 rfl) ?_
    refine lv_iconst (v := 3) hx hb d_Model_step_167 (by decide) ?_
    refine pf_Model_168 hC hK hG d_Model_step_168 (fun M168_25 H locs eM168_25 hG => ?_)
    have hf := sm_of eM168_25 hf
    obtain rfl := Option.some.inj hf
    exact sm_vret hC hr hlk hG d_Model_step_171
  · have hf := sm_f h148_24 hf
    refine lv_iload_n hx hb d_Model_step_151 rfl (lv_at hl 4 rfl) ?_
    refine lv_bipush (v := 12) hx hb d_Model_step_152 (by decide) ?_
    refine lv_icmp_ne hx hb d_Model_step_154 rfl (fun h154_26 => ?_) (fun h154_26 => ?_)
    · have hf := sm_f h154_26 hf
      exact jw_Model_step_172 hC hr hlk hK M r140_22 y9 y6 y4 y3 hG hl hf
    · have hf := sm_t h154_26 hf
      refine lv_iload hx hb d_Model_step_157 (lv_at hl 0 rfl) ?_
      refine lv_aload_n hx hb d_Model_step_159 rfl (lv_at hl 5 rfl) ?_
      refine gf_Model_156 hC hK hG d_Model_step_160 ?_
      refine lv_icmp_ge hx hb d_Model_step_163 rfl (fun h163_36 => ?_) (fun h163_36 => ?_)
      · have hf := sm_t h163_36 hf
        exact jw_Model_step_172 hC hr hlk hK M r140_22 y9 y6 y4 y3 hG hl hf
      · have hf := sm_f h163_36 hf
        refine lv_aload_n hx hb d_Model_step_166 rfl (lv_at hl 5 rfl) ?_
        refine lv_iconst (v := 3) hx hb d_Model_step_167 (by decide) ?_
        refine pf_Model_168 hC hK hG d_Model_step_168 (fun M168_37 H locs eM168_37 hG => ?_)
        have hf := sm_of eM168_37 hf
        obtain rfl := Option.some.inj hf
        exact sm_vret hC hr hlk hG d_Model_step_171
set_option maxHeartbeats 4000000 in
set_option maxRecDepth 100000 in
theorem jw_Model_step_310 {p : Program} {l : Launch} {e : Env} {s : State} {m : MethodId} {args : Array Value} {below : List Frame} {meth : Method} {c : Code} {v : sm_V} {o : sm_O} {M' : sm_M} (hC : CallFix p m c b_Model_step 11 s args w_Model_step R_Model) (hr : meth.sig.returnType = none) (hlk : meth.locks = false) (hK : sm_K v s) (M : sm_M) (y9 : Int32) (y8 : Int32) (y7 : Int32) (y4 : Int32) (y3 : Int32) (y2 : Int32) {H : Heap} {locs : List Loc} {ls : Array Slot} (hG : sm_G v M o s H locs) (hl : lv_has ls 11 [(9, .int y9), (8, .int y8), (7, .int y7), (4, .int y4), (3, .int y3), (2, .int y2), (0, .ref (sm_a v 68))]) (hf : j_Model_step_310 M y9 y8 y7 y4 y3 y2 = some M') : W p l e rm_Model_step s m args below meth c H locs 0 0 (MQ below (sm_Qv v M' o) args s 0 0 (sm_A v)) (F0 m 310 ls []) := by
  have hx := hC.1
  have hb := hC.2.1
  unfold j_Model_step_310 at hf
  refine lv_aload_n hx hb d_Model_step_310 rfl (lv_at hl 6 rfl) ?_
  refine lv_iload hx hb d_Model_step_311 (lv_at hl 3 rfl) ?_
  refine lv_iload hx hb d_Model_step_313 (lv_at hl 0 rfl) ?_
  obtain ⟨M315_43, hc315_41, hf⟩ := sm_of_b1 hf
  refine ca_Model_182 hC hK hG (c_Model_set hc315_41) hl.1 ⟨Nat.le_of_ble_eq_true rfl, Nat.le_of_ble_eq_true rfl⟩ ⟨Nat.zero_le _, Nat.zero_le _⟩ (Nat.le_of_ble_eq_true rfl) d_Model_step_315 (fun H locs hG => ?_)
  refine lv_iload_n hx hb d_Model_step_318 rfl (lv_at hl 4 rfl) ?_
  refine lv_bipush (v := 16) hx hb d_Model_step_319 (by decide) ?_
  refine lv_icmp_ne hx hb d_Model_step_321 rfl (fun h321_44 => ?_) (fun h321_44 => ?_)
  · have hf := sm_f h321_44 hf
    refine lv_iload hx hb d_Model_step_338 (lv_at hl 2 rfl) ?_
    refine lv_iload hx hb d_Model_step_340 (lv_at hl 1 rfl) ?_
    refine lv_iadd hx hb d_Model_step_342 ?_
    refine lv_topi (fun x343_45 ex343_45 => ?_)
    have hf := sm_of ex343_45 hf
    refine lv_istore hx hb d_Model_step_343 hl (Nat.le_of_ble_eq_true rfl) rfl (fun ls hl => ?_)
    have hl : lv_has ls 11 [(9, .int x343_45), (8, .int y8), (7, .int y7), (4, .int y4), (3, .int y3), (2, .int y2), (0, .ref (sm_a v 68))] := hl
    have hl : lv_has ls 11 [(9, .int x343_45), (0, .ref (sm_a v 68))] := lv_sub hl [0, 6] rfl
    refine lv_goto hx hb d_Model_step_345 rfl ?_
    refine lv_aload_n hx hb d_Model_step_435 rfl (lv_at hl 1 rfl) ?_
    refine lv_iload hx hb d_Model_step_436 (lv_at hl 0 rfl) ?_
    refine pf_Model_165 hC hK hG d_Model_step_438 (fun M438_46 H locs eM438_46 hG => ?_)
    have hf := sm_of eM438_46 hf
    obtain rfl := Option.some.inj hf
    exact sm_vret hC hr hlk hG d_Model_step_441
  · have hf := sm_t h321_44 hf
    refine lv_aload_n hx hb d_Model_step_324 rfl (lv_at hl 6 rfl) ?_
    refine gf_Model_165 hC hK hG d_Model_step_325 ?_
    refine lv_iconst (v := 2) hx hb d_Model_step_328 (by decide) ?_
    refine lv_iload_n hx hb d_Model_step_329 rfl (lv_at hl 5 rfl) ?_
    refine lv_bipush (v := 10) hx hb d_Model_step_330 (by decide) ?_
    refine lv_ishr hx hb d_Model_step_332 ?_
    refine lv_imul hx hb d_Model_step_333 ?_
    refine lv_iadd hx hb d_Model_step_334 ?_
    refine lv_goto hx hb d_Model_step_335 rfl ?_
    refine lv_topi (fun x343_47 ex343_47 => ?_)
    have hf := sm_of ex343_47 hf
    refine lv_istore hx hb d_Model_step_343 hl (Nat.le_of_ble_eq_true rfl) rfl (fun ls hl => ?_)
    have hl : lv_has ls 11 [(9, .int x343_47), (8, .int y8), (7, .int y7), (4, .int y4), (3, .int y3), (2, .int y2), (0, .ref (sm_a v 68))] := hl
    have hl : lv_has ls 11 [(9, .int x343_47), (0, .ref (sm_a v 68))] := lv_sub hl [0, 6] rfl
    refine lv_goto hx hb d_Model_step_345 rfl ?_
    refine lv_aload_n hx hb d_Model_step_435 rfl (lv_at hl 1 rfl) ?_
    refine lv_iload hx hb d_Model_step_436 (lv_at hl 0 rfl) ?_
    refine pf_Model_165 hC hK hG d_Model_step_438 (fun M438_48 H locs eM438_48 hG => ?_)
    have hf := sm_of eM438_48 hf
    obtain rfl := Option.some.inj hf
    exact sm_vret hC hr hlk hG d_Model_step_441
set_option maxHeartbeats 4000000 in
set_option maxRecDepth 100000 in
theorem jw_Model_step_298 {p : Program} {l : Launch} {e : Env} {s : State} {m : MethodId} {args : Array Value} {below : List Frame} {meth : Method} {c : Code} {v : sm_V} {o : sm_O} {M' : sm_M} (hC : CallFix p m c b_Model_step 11 s args w_Model_step R_Model) (hr : meth.sig.returnType = none) (hlk : meth.locks = false) (hK : sm_K v s) (M : sm_M) (y9 : Int32) (y8 : Int32) (y7 : Int32) (y6 : Int32) (y4 : Int32) (y3 : Int32) (y2 : Int32) {H : Heap} {locs : List Loc} {ls : Array Slot} (hG : sm_G v M o s H locs) (hl : lv_has ls 11 [(9, .int y9), (8, .int y8), (7, .int y7), (6, .int y6), (4, .int y4), (3, .int y3), (2, .int y2), (0, .ref (sm_a v 68))]) (hf : j_Model_step_298 M y9 y8 y7 y6 y4 y3 y2 = some M') : W p l e rm_Model_step s m args below meth c H locs 0 0 (MQ below (sm_Qv v M' o) args s 0 0 (sm_A v)) (F0 m 298 ls []) := by
  have hx := hC.1
  have hb := hC.2.1
  unfold j_Model_step_298 at hf
  refine lv_iload_n hx hb d_Model_step_298 rfl (lv_at hl 5 rfl) ?_
  refine lv_bipush (v := 16) hx hb d_Model_step_299 (by decide) ?_
  refine lv_icmp_eq hx hb d_Model_step_301 rfl (fun h301_40 => ?_) (fun h301_40 => ?_)
  · have hf := sm_t h301_40 hf
    exact jw_Model_step_310 hC hr hlk hK M y9 y8 y7 y4 y3 y2 hG (lv_sub hl [0, 1, 2, 4, 5, 6, 7] rfl) hf
  · have hf := sm_f h301_40 hf
    refine lv_iload_n hx hb d_Model_step_304 rfl (lv_at hl 5 rfl) ?_
    refine lv_bipush (v := 17) hx hb d_Model_step_305 (by decide) ?_
    refine lv_icmp_ne hx hb d_Model_step_307 rfl (fun h307_49 => ?_) (fun h307_49 => ?_)
    · have hf := sm_f h307_49 hf
      refine lv_iload_n hx hb d_Model_step_348 rfl (lv_at hl 5 rfl) ?_
      refine lv_bipush (v := 18) hx hb d_Model_step_349 (by decide) ?_
      refine lv_icmp_ne hx hb d_Model_step_351 rfl (fun h351_50 => ?_) (fun h351_50 => ?_)
      · have hf := sm_f h351_50 hf
        refine lv_aload_n hx hb d_Model_step_381 rfl (lv_at hl 7 rfl) ?_
        refine lv_iload hx hb d_Model_step_382 (lv_at hl 4 rfl) ?_
        refine lv_iload_n hx hb d_Model_step_384 rfl (lv_at hl 5 rfl) ?_
        refine lv_iconst (v := 1) hx hb d_Model_step_385 (by decide) ?_
        refine lv_icmp_ne hx hb d_Model_step_386 rfl (fun h386_51 => ?_) (fun h386_51 => ?_)
        · have hf := sm_f h386_51 hf
          refine lv_iload_n hx hb d_Model_step_400 rfl (lv_at hl 5 rfl) ?_
          refine lv_iconst (v := 2) hx hb d_Model_step_401 (by decide) ?_
          refine lv_icmp_ne hx hb d_Model_step_402 rfl (fun h402_52 => ?_) (fun h402_52 => ?_)
          · have hf := sm_f h402_52 hf
            refine lv_aload_n hx hb d_Model_step_413 rfl (lv_at hl 7 rfl) ?_
            refine lv_iload_n hx hb d_Model_step_414 rfl (lv_at hl 5 rfl) ?_
            refine lv_iload hx hb d_Model_step_415 (lv_at hl 2 rfl) ?_
            refine lv_aload_n hx hb d_Model_step_417 rfl (lv_at hl 7 rfl) ?_
            refine gf_Model_68 hC hK hG d_Model_step_418 ?_
            refine lv_iload_n hx hb d_Model_step_421 rfl (lv_at hl 6 rfl) ?_
            refine lv_bipush (v := 15) hx hb d_Model_step_422 (by decide) ?_
            refine lv_ishr hx hb d_Model_step_424 ?_
            refine lv_bipush (v := 31) hx hb d_Model_step_425 (by decide) ?_
            refine lv_iand hx hb d_Model_step_427 ?_
            obtain ⟨h428_53, hf⟩ := sm_of_gd hf
            refine sm_iald hC hK hG (by decide) rfl h428_53 d_Model_step_428 ?_
            obtain ⟨r429_55, hc429_54, hf⟩ := sm_of_b1 hf
            refine ca_Model_186 hC hK hG (c_Model_reckoned hc429_54) hl.1 ⟨Nat.le_of_ble_eq_true rfl, Nat.le_of_ble_eq_true rfl⟩ ⟨Nat.zero_le _, Nat.zero_le _⟩ (Nat.le_of_ble_eq_true rfl) d_Model_step_429 ?_
            obtain ⟨M432_59, hc432_57, hf⟩ := sm_of_b1 hf
            refine ca_Model_182 hC hK hG (c_Model_set hc432_57) hl.1 ⟨Nat.le_of_ble_eq_true rfl, Nat.le_of_ble_eq_true rfl⟩ ⟨Nat.zero_le _, Nat.zero_le _⟩ (Nat.le_of_ble_eq_true rfl) d_Model_step_432 (fun H locs hG => ?_)
            refine lv_aload_n hx hb d_Model_step_435 rfl (lv_at hl 7 rfl) ?_
            refine lv_iload hx hb d_Model_step_436 (lv_at hl 0 rfl) ?_
            refine pf_Model_165 hC hK hG d_Model_step_438 (fun M438_60 H locs eM438_60 hG => ?_)
            have hf := sm_of eM438_60 hf
            obtain rfl := Option.some.inj hf
            exact sm_vret hC hr hlk hG d_Model_step_441
          · have hf := sm_t h402_52 hf
            refine lv_iload hx hb d_Model_step_405 (lv_at hl 2 rfl) ?_
            refine lv_iload hx hb d_Model_step_407 (lv_at hl 1 rfl) ?_
            refine lv_iadd hx hb d_Model_step_409 ?_
            refine lv_goto hx hb d_Model_step_410 rfl ?_
            obtain ⟨M432_63, hc432_61, hf⟩ := sm_of_b1 hf
            refine ca_Model_182 hC hK hG (c_Model_set hc432_61) hl.1 ⟨Nat.le_of_ble_eq_true rfl, Nat.le_of_ble_eq_true rfl⟩ ⟨Nat.zero_le _, Nat.zero_le _⟩ (Nat.le_of_ble_eq_true rfl) d_Model_step_432 (fun H locs hG => ?_)
            refine lv_aload_n hx hb d_Model_step_435 rfl (lv_at hl 7 rfl) ?_
            refine lv_iload hx hb d_Model_step_436 (lv_at hl 0 rfl) ?_
            refine pf_Model_165 hC hK hG d_Model_step_438 (fun M438_64 H locs eM438_64 hG => ?_)
            have hf := sm_of eM438_64 hf
            obtain rfl := Option.some.inj hf
            exact sm_vret hC hr hlk hG d_Model_step_441
        · have hf := sm_t h386_51 hf
          refine lv_iload_n hx hb d_Model_step_389 rfl (lv_at hl 6 rfl) ?_
          refine lv_bipush (v := 12) hx hb d_Model_step_390 (by decide) ?_
          refine lv_ishr hx hb d_Model_step_392 ?_
          refine lv_sipush (v := 4096) hx hb d_Model_step_393 (by decide) ?_
          refine lv_imul hx hb d_Model_step_396 ?_
          refine lv_goto hx hb d_Model_step_397 rfl ?_
          obtain ⟨M432_67, hc432_65, hf⟩ := sm_of_b1 hf
          refine ca_Model_182 hC hK hG (c_Model_set hc432_65) hl.1 ⟨Nat.le_of_ble_eq_true rfl, Nat.le_of_ble_eq_true rfl⟩ ⟨Nat.zero_le _, Nat.zero_le _⟩ (Nat.le_of_ble_eq_true rfl) d_Model_step_432 (fun H locs hG => ?_)
          refine lv_aload_n hx hb d_Model_step_435 rfl (lv_at hl 7 rfl) ?_
          refine lv_iload hx hb d_Model_step_436 (lv_at hl 0 rfl) ?_
          refine pf_Model_165 hC hK hG d_Model_step_438 (fun M438_68 H locs eM438_68 hG => ?_)
          have hf := sm_of eM438_68 hf
          obtain rfl := Option.some.inj hf
          exact sm_vret hC hr hlk hG d_Model_step_441
      · have hf := sm_t h351_50 hf
        refine lv_aload_n hx hb d_Model_step_354 rfl (lv_at hl 7 rfl) ?_
        refine gf_Model_71 hC hK hG d_Model_step_355 ?_
        refine lv_aload_n hx hb d_Model_step_358 rfl (lv_at hl 7 rfl) ?_
        refine gf_Model_174 hC hK hG d_Model_step_359 ?_
        refine lv_bipush (v := 16) hx hb d_Model_step_362 (by decide) ?_
        refine lv_irem hx hb d_Model_step_364 (by decide) ?_
        refine lv_iload hx hb d_Model_step_365 (lv_at hl 3 rfl) ?_
        obtain ⟨h367_69, hf⟩ := sm_of_gd hf
        refine sm_iast hC hK hG (by decide) rfl h367_69 d_Model_step_367 (fun M367_70 H locs eM367_70 hG => ?_)
        have hf := sm_of eM367_70 hf
        refine lv_aload_n hx hb d_Model_step_368 rfl (lv_at hl 7 rfl) ?_
        refine lv_dup hx hb d_Model_step_369 rfl ?_
        refine gf_Model_174 hC hK hG d_Model_step_370 ?_
        refine lv_iconst (v := 1) hx hb d_Model_step_373 (by decide) ?_
        refine lv_iadd hx hb d_Model_step_374 ?_
        refine pf_Model_174 hC hK hG d_Model_step_375 (fun M375_71 H locs eM375_71 hG => ?_)
        have hf := sm_of eM375_71 hf
        refine lv_goto hx hb d_Model_step_378 rfl ?_
        refine lv_aload_n hx hb d_Model_step_435 rfl (lv_at hl 7 rfl) ?_
        refine lv_iload hx hb d_Model_step_436 (lv_at hl 0 rfl) ?_
        refine pf_Model_165 hC hK hG d_Model_step_438 (fun M438_72 H locs eM438_72 hG => ?_)
        have hf := sm_of eM438_72 hf
        obtain rfl := Option.some.inj hf
        exact sm_vret hC hr hlk hG d_Model_step_441
    · have hf := sm_t h307_49 hf
      exact jw_Model_step_310 hC hr hlk hK M y9 y8 y7 y4 y3 y2 hG (lv_sub hl [0, 1, 2, 4, 5, 6, 7] rfl) hf
set_option maxHeartbeats 4000000 in
set_option maxRecDepth 100000 in
theorem jw_Model_step_272 {p : Program} {l : Launch} {e : Env} {s : State} {m : MethodId} {args : Array Value} {below : List Frame} {meth : Method} {c : Code} {v : sm_V} {o : sm_O} {M' : sm_M} (hC : CallFix p m c b_Model_step 11 s args w_Model_step R_Model) (hr : meth.sig.returnType = none) (hlk : meth.locks = false) (hK : sm_K v s) (M : sm_M) (y9 : Int32) (y8 : Int32) (z0 : Int32) {H : Heap} {locs : List Loc} {ls : Array Slot} (hG : sm_G v M o s H locs) (hl : lv_has ls 11 [(9, .int y9), (8, .int y8), (0, .ref (sm_a v 68))]) (hf : j_Model_step_272 M y9 y8 z0 = some M') : W p l e rm_Model_step s m args below meth c H locs 0 0 (MQ below (sm_Qv v M' o) args s 0 0 (sm_A v)) (F0 m 272 ls [.int z0]) := by
  have hx := hC.1
  have hb := hC.2.1
  unfold j_Model_step_272 at hf
  refine lv_istore hx hb d_Model_step_272 hl (Nat.le_of_ble_eq_true rfl) rfl (fun ls hl => ?_)
  have hl : lv_has ls 11 [(10, .int z0), (9, .int y9), (8, .int y8), (0, .ref (sm_a v 68))] := hl
  refine lv_iload hx hb d_Model_step_274 (lv_at hl 0 rfl) ?_
  refine lv_if_eq hx hb d_Model_step_276 rfl (fun h276_77 => ?_) (fun h276_77 => ?_)
  · have hf := sm_t h276_77 hf
    refine lv_iload hx hb d_Model_step_291 (lv_at hl 1 rfl) ?_
    refine lv_istore hx hb d_Model_step_293 hl (Nat.le_of_ble_eq_true rfl) rfl (fun ls hl => ?_)
    have hl : lv_has ls 11 [(9, .int y9), (10, .int z0), (8, .int y8), (0, .ref (sm_a v 68))] := hl
    have hl : lv_has ls 11 [(9, .int y9), (0, .ref (sm_a v 68))] := lv_sub hl [0, 3] rfl
    refine lv_goto hx hb d_Model_step_295 rfl ?_
    refine lv_aload_n hx hb d_Model_step_435 rfl (lv_at hl 1 rfl) ?_
    refine lv_iload hx hb d_Model_step_436 (lv_at hl 0 rfl) ?_
    refine pf_Model_165 hC hK hG d_Model_step_438 (fun M438_78 H locs eM438_78 hG => ?_)
    have hf := sm_of eM438_78 hf
    obtain rfl := Option.some.inj hf
    exact sm_vret hC hr hlk hG d_Model_step_441
  · have hf := sm_f h276_77 hf
    refine lv_aload_n hx hb d_Model_step_279 rfl (lv_at hl 3 rfl) ?_
    refine gf_Model_165 hC hK hG d_Model_step_280 ?_
    refine lv_iconst (v := 2) hx hb d_Model_step_283 (by decide) ?_
    refine lv_iload hx hb d_Model_step_284 (lv_at hl 2 rfl) ?_
    refine lv_imul hx hb d_Model_step_286 ?_
    refine lv_iadd hx hb d_Model_step_287 ?_
    refine lv_goto hx hb d_Model_step_288 rfl ?_
    refine lv_topi (fun x293_79 ex293_79 => ?_)
    have hf := sm_of ex293_79 hf
    refine lv_istore hx hb d_Model_step_293 hl (Nat.le_of_ble_eq_true rfl) rfl (fun ls hl => ?_)
    have hl : lv_has ls 11 [(9, .int x293_79), (10, .int z0), (8, .int y8), (0, .ref (sm_a v 68))] := hl
    have hl : lv_has ls 11 [(9, .int x293_79), (0, .ref (sm_a v 68))] := lv_sub hl [0, 3] rfl
    refine lv_goto hx hb d_Model_step_295 rfl ?_
    refine lv_aload_n hx hb d_Model_step_435 rfl (lv_at hl 1 rfl) ?_
    refine lv_iload hx hb d_Model_step_436 (lv_at hl 0 rfl) ?_
    refine pf_Model_165 hC hK hG d_Model_step_438 (fun M438_80 H locs eM438_80 hG => ?_)
    have hf := sm_of eM438_80 hf
    obtain rfl := Option.some.inj hf
    exact sm_vret hC hr hlk hG d_Model_step_441
set_option maxHeartbeats 4000000 in
set_option maxRecDepth 100000 in
theorem jw_Model_step_43 {p : Program} {l : Launch} {e : Env} {s : State} {m : MethodId} {args : Array Value} {below : List Frame} {meth : Method} {c : Code} {v : sm_V} {o : sm_O} {M' : sm_M} (hC : CallFix p m c b_Model_step 11 s args w_Model_step R_Model) (hr : meth.sig.returnType = none) (hlk : meth.locks = false) (hK : sm_K v s) (M : sm_M) (z0 : Int32) {H : Heap} {locs : List Loc} {ls : Array Slot} (hG : sm_G v M o s H locs) (hl : lv_has ls 11 [(0, .ref (sm_a v 68))]) (hf : j_Model_step_43 M z0 = some M') : W p l e rm_Model_step s m args below meth c H locs 0 0 (MQ below (sm_Qv v M' o) args s 0 0 (sm_A v)) (F0 m 43 ls [.int z0]) := by
  have hx := hC.1
  have hb := hC.2.1
  unfold j_Model_step_43 at hf
  refine lv_istore_n hx hb d_Model_step_43 rfl hl (Nat.le_of_ble_eq_true rfl) rfl (fun ls hl => ?_)
  have hl : lv_has ls 11 [(2, .int z0), (0, .ref (sm_a v 68))] := hl
  refine lv_iload_n hx hb d_Model_step_44 rfl (lv_at hl 0 rfl) ?_
  refine lv_bipush (v := 31) hx hb d_Model_step_45 (by decide) ?_
  refine lv_iand hx hb d_Model_step_47 ?_
  refine lv_topi (fun x48_6 ex48_6 => ?_)
  have hf := sm_of ex48_6 hf
  refine lv_istore_n hx hb d_Model_step_48 rfl hl (Nat.le_of_ble_eq_true rfl) rfl (fun ls hl => ?_)
  have hl : lv_has ls 11 [(3, .int x48_6), (2, .int z0), (0, .ref (sm_a v 68))] := hl
  refine lv_iload_n hx hb d_Model_step_49 rfl (lv_at hl 1 rfl) ?_
  refine lv_iconst (v := 5) hx hb d_Model_step_50 (by decide) ?_
  refine lv_ishr hx hb d_Model_step_51 ?_
  refine lv_bipush (v := 31) hx hb d_Model_step_52 (by decide) ?_
  refine lv_iand hx hb d_Model_step_54 ?_
  refine lv_topi (fun x55_7 ex55_7 => ?_)
  have hf := sm_of ex55_7 hf
  refine lv_istore hx hb d_Model_step_55 hl (Nat.le_of_ble_eq_true rfl) rfl (fun ls hl => ?_)
  have hl : lv_has ls 11 [(4, .int x55_7), (3, .int x48_6), (2, .int z0), (0, .ref (sm_a v 68))] := hl
  refine lv_iload_n hx hb d_Model_step_57 rfl (lv_at hl 2 rfl) ?_
  refine lv_bipush (v := 10) hx hb d_Model_step_58 (by decide) ?_
  refine lv_ishr hx hb d_Model_step_60 ?_
  refine lv_bipush (v := 31) hx hb d_Model_step_61 (by decide) ?_
  refine lv_iand hx hb d_Model_step_63 ?_
  refine lv_topi (fun x64_8 ex64_8 => ?_)
  have hf := sm_of ex64_8 hf
  refine lv_istore hx hb d_Model_step_64 hl (Nat.le_of_ble_eq_true rfl) rfl (fun ls hl => ?_)
  have hl : lv_has ls 11 [(5, .int x64_8), (4, .int x55_7), (3, .int x48_6), (2, .int z0), (0, .ref (sm_a v 68))] := hl
  refine lv_aload_n hx hb d_Model_step_66 rfl (lv_at hl 4 rfl) ?_
  refine gf_Model_68 hC hK hG d_Model_step_67 ?_
  refine lv_iload hx hb d_Model_step_70 (lv_at hl 1 rfl) ?_
  obtain ⟨h72_9, hf⟩ := sm_of_gd hf
  refine sm_iald hC hK hG (by decide) rfl h72_9 d_Model_step_72 ?_
  refine lv_topi (fun x73_10 ex73_10 => ?_)
  have hf := sm_of ex73_10 hf
  refine lv_istore hx hb d_Model_step_73 hl (Nat.le_of_ble_eq_true rfl) rfl (fun ls hl => ?_)
  have hl : lv_has ls 11 [(6, .int x73_10), (5, .int x64_8), (4, .int x55_7), (3, .int x48_6), (2, .int z0), (0, .ref (sm_a v 68))] := hl
  refine lv_aload_n hx hb d_Model_step_75 rfl (lv_at hl 5 rfl) ?_
  refine gf_Model_68 hC hK hG d_Model_step_76 ?_
  refine lv_iload hx hb d_Model_step_79 (lv_at hl 1 rfl) ?_
  obtain ⟨h81_11, hf⟩ := sm_of_gd hf
  refine sm_iald hC hK hG (by decide) rfl h81_11 d_Model_step_81 ?_
  refine lv_topi (fun x82_12 ex82_12 => ?_)
  have hf := sm_of ex82_12 hf
  refine lv_istore hx hb d_Model_step_82 hl (Nat.le_of_ble_eq_true rfl) rfl (fun ls hl => ?_)
  have hl : lv_has ls 11 [(7, .int x82_12), (6, .int x73_10), (5, .int x64_8), (4, .int x55_7), (3, .int x48_6), (2, .int z0), (0, .ref (sm_a v 68))] := hl
  have hl : lv_has ls 11 [(7, .int x82_12), (6, .int x73_10), (4, .int x55_7), (3, .int x48_6), (2, .int z0), (0, .ref (sm_a v 68))] := lv_sub hl [0, 1, 3, 4, 5, 6] rfl
  refine lv_iload_n hx hb d_Model_step_84 rfl (lv_at hl 4 rfl) ?_
  refine lv_bipush (v := 20) hx hb d_Model_step_85 (by decide) ?_
  refine lv_ishr hx hb d_Model_step_87 ?_
  refine lv_topi (fun x88_13 ex88_13 => ?_)
  have hf := sm_of ex88_13 hf
  refine lv_istore hx hb d_Model_step_88 hl (Nat.le_of_ble_eq_true rfl) rfl (fun ls hl => ?_)
  have hl : lv_has ls 11 [(8, .int x88_13), (7, .int x82_12), (6, .int x73_10), (4, .int x55_7), (3, .int x48_6), (2, .int z0), (0, .ref (sm_a v 68))] := hl
  refine lv_iload_n hx hb d_Model_step_90 rfl (lv_at hl 4 rfl) ?_
  refine lv_if_eq hx hb d_Model_step_91 rfl (fun h91_14 => ?_) (fun h91_14 => ?_)
  · have hf := sm_t h91_14 hf
    refine lv_aload_n hx hb d_Model_step_100 rfl (lv_at hl 6 rfl) ?_
    refine lv_iload_n hx hb d_Model_step_101 rfl (lv_at hl 4 rfl) ?_
    refine lv_if_ne hx hb d_Model_step_102 rfl (fun h102_15 => ?_) (fun h102_15 => ?_)
    · have hf := sm_f h102_15 hf
      refine lv_iconst (v := 3) hx hb d_Model_step_109 (by decide) ?_
      refine pf_Model_168 hC hK hG d_Model_step_110 (fun M110_16 H locs eM110_16 hG => ?_)
      have hf := sm_of eM110_16 hf
      obtain rfl := Option.some.inj hf
      exact sm_vret hC hr hlk hG d_Model_step_113
    · have hf := sm_t h102_15 hf
      refine lv_iconst (v := 2) hx hb d_Model_step_105 (by decide) ?_
      refine lv_goto hx hb d_Model_step_106 rfl ?_
      refine pf_Model_168 hC hK hG d_Model_step_110 (fun M110_17 H locs eM110_17 hG => ?_)
      have hf := sm_of eM110_17 hf
      obtain rfl := Option.some.inj hf
      exact sm_vret hC hr hlk hG d_Model_step_113
  · have hf := sm_f h91_14 hf
    refine lv_iload_n hx hb d_Model_step_94 rfl (lv_at hl 4 rfl) ?_
    refine lv_bipush (v := 18) hx hb d_Model_step_95 (by decide) ?_
    refine lv_icmp_le hx hb d_Model_step_97 rfl (fun h97_18 => ?_) (fun h97_18 => ?_)
    · have hf := sm_t h97_18 hf
      refine lv_aload_n hx hb d_Model_step_114 rfl (lv_at hl 6 rfl) ?_
      refine gf_Model_165 hC hK hG d_Model_step_115 ?_
      refine lv_iconst (v := 4) hx hb d_Model_step_118 (by decide) ?_
      refine lv_iadd hx hb d_Model_step_119 ?_
      refine lv_topi (fun x120_19 ex120_19 => ?_)
      have hf := sm_of ex120_19 hf
      refine lv_istore hx hb d_Model_step_120 hl (Nat.le_of_ble_eq_true rfl) rfl (fun ls hl => ?_)
      have hl : lv_has ls 11 [(9, .int x120_19), (8, .int x88_13), (7, .int x82_12), (6, .int x73_10), (4, .int x55_7), (3, .int x48_6), (2, .int z0), (0, .ref (sm_a v 68))] := hl
      refine lv_iload_n hx hb d_Model_step_122 rfl (lv_at hl 5 rfl) ?_
      refine lv_bipush (v := 11) hx hb d_Model_step_123 (by decide) ?_
      refine lv_icmp_eq hx hb d_Model_step_125 rfl (fun h125_20 => ?_) (fun h125_20 => ?_)
      · have hf := sm_t h125_20 hf
        exact jw_Model_step_134 hC hr hlk hK M x120_19 x88_13 x82_12 x73_10 x55_7 x48_6 hG (lv_sub hl [0, 1, 2, 3, 4, 5, 7] rfl) hf
      · have hf := sm_f h125_20 hf
        refine lv_iload_n hx hb d_Model_step_128 rfl (lv_at hl 5 rfl) ?_
        refine lv_bipush (v := 12) hx hb d_Model_step_129 (by decide) ?_
        refine lv_icmp_ne hx hb d_Model_step_131 rfl (fun h131_38 => ?_) (fun h131_38 => ?_)
        · have hf := sm_f h131_38 hf
          refine lv_iload_n hx hb d_Model_step_206 rfl (lv_at hl 5 rfl) ?_
          refine lv_bipush (v := 13) hx hb d_Model_step_207 (by decide) ?_
          refine lv_icmp_lt hx hb d_Model_step_209 rfl (fun h209_39 => ?_) (fun h209_39 => ?_)
          · have hf := sm_t h209_39 hf
            exact jw_Model_step_298 hC hr hlk hK M x120_19 x88_13 x82_12 x73_10 x55_7 x48_6 z0 hG hl hf
          · have hf := sm_f h209_39 hf
            refine lv_iload_n hx hb d_Model_step_212 rfl (lv_at hl 5 rfl) ?_
            refine lv_bipush (v := 15) hx hb d_Model_step_213 (by decide) ?_
            refine lv_icmp_gt hx hb d_Model_step_215 rfl (fun h215_73 => ?_) (fun h215_73 => ?_)
            · have hf := sm_t h215_73 hf
              exact jw_Model_step_298 hC hr hlk hK M x120_19 x88_13 x82_12 x73_10 x55_7 x48_6 z0 hG hl hf
            · have hf := sm_f h215_73 hf
              refine lv_iload_n hx hb d_Model_step_218 rfl (lv_at hl 5 rfl) ?_
              refine lv_bipush (v := 13) hx hb d_Model_step_219 (by decide) ?_
              refine lv_icmp_ne hx hb d_Model_step_221 rfl (fun h221_74 => ?_) (fun h221_74 => ?_)
              · have hf := sm_f h221_74 hf
                refine lv_iload_n hx hb d_Model_step_239 rfl (lv_at hl 5 rfl) ?_
                refine lv_bipush (v := 14) hx hb d_Model_step_240 (by decide) ?_
                refine lv_icmp_ne hx hb d_Model_step_242 rfl (fun h242_75 => ?_) (fun h242_75 => ?_)
                · have hf := sm_f h242_75 hf
                  refine lv_iload hx hb d_Model_step_260 (lv_at hl 3 rfl) ?_
                  refine lv_iload hx hb d_Model_step_262 (lv_at hl 2 rfl) ?_
                  refine lv_icmp_ge hx hb d_Model_step_264 rfl (fun h264_76 => ?_) (fun h264_76 => ?_)
                  · have hf := sm_t h264_76 hf
                    refine lv_iconst (v := 0) hx hb d_Model_step_271 (by decide) ?_
                    exact jw_Model_step_272 hC hr hlk hK M x120_19 x88_13 (0 : Int32) hG (lv_sub hl [0, 1, 7] rfl) hf
                  · have hf := sm_f h264_76 hf
                    refine lv_iconst (v := 1) hx hb d_Model_step_267 (by decide) ?_
                    refine lv_goto hx hb d_Model_step_268 rfl ?_
                    exact jw_Model_step_272 hC hr hlk hK M x120_19 x88_13 (1 : Int32) hG (lv_sub hl [0, 1, 7] rfl) hf
                · have hf := sm_t h242_75 hf
                  refine lv_iload hx hb d_Model_step_245 (lv_at hl 3 rfl) ?_
                  refine lv_iload hx hb d_Model_step_247 (lv_at hl 2 rfl) ?_
                  refine lv_icmp_eq hx hb d_Model_step_249 rfl (fun h249_81 => ?_) (fun h249_81 => ?_)
                  · have hf := sm_t h249_81 hf
                    refine lv_iconst (v := 0) hx hb d_Model_step_256 (by decide) ?_
                    refine lv_goto hx hb d_Model_step_257 rfl ?_
                    exact jw_Model_step_272 hC hr hlk hK M x120_19 x88_13 (0 : Int32) hG (lv_sub hl [0, 1, 7] rfl) hf
                  · have hf := sm_f h249_81 hf
                    refine lv_iconst (v := 1) hx hb d_Model_step_252 (by decide) ?_
                    refine lv_goto hx hb d_Model_step_253 rfl ?_
                    exact jw_Model_step_272 hC hr hlk hK M x120_19 x88_13 (1 : Int32) hG (lv_sub hl [0, 1, 7] rfl) hf
              · have hf := sm_t h221_74 hf
                refine lv_iload hx hb d_Model_step_224 (lv_at hl 3 rfl) ?_
                refine lv_iload hx hb d_Model_step_226 (lv_at hl 2 rfl) ?_
                refine lv_icmp_ne hx hb d_Model_step_228 rfl (fun h228_82 => ?_) (fun h228_82 => ?_)
                · have hf := sm_f h228_82 hf
                  refine lv_iconst (v := 0) hx hb d_Model_step_235 (by decide) ?_
                  refine lv_goto hx hb d_Model_step_236 rfl ?_
                  exact jw_Model_step_272 hC hr hlk hK M x120_19 x88_13 (0 : Int32) hG (lv_sub hl [0, 1, 7] rfl) hf
                · have hf := sm_t h228_82 hf
                  refine lv_iconst (v := 1) hx hb d_Model_step_231 (by decide) ?_
                  refine lv_goto hx hb d_Model_step_232 rfl ?_
                  exact jw_Model_step_272 hC hr hlk hK M x120_19 x88_13 (1 : Int32) hG (lv_sub hl [0, 1, 7] rfl) hf
        · have hf := sm_t h131_38 hf
          exact jw_Model_step_134 hC hr hlk hK M x120_19 x88_13 x82_12 x73_10 x55_7 x48_6 hG (lv_sub hl [0, 1, 2, 3, 4, 5, 7] rfl) hf
    · have hf := sm_f h97_18 hf
      refine lv_aload_n hx hb d_Model_step_100 rfl (lv_at hl 6 rfl) ?_
      refine lv_iload_n hx hb d_Model_step_101 rfl (lv_at hl 4 rfl) ?_
      refine lv_if_ne hx hb d_Model_step_102 rfl (fun h102_83 => ?_) (fun h102_83 => ?_)
      · have hf := sm_f h102_83 hf
        refine lv_iconst (v := 3) hx hb d_Model_step_109 (by decide) ?_
        refine pf_Model_168 hC hK hG d_Model_step_110 (fun M110_84 H locs eM110_84 hG => ?_)
        have hf := sm_of eM110_84 hf
        obtain rfl := Option.some.inj hf
        exact sm_vret hC hr hlk hG d_Model_step_113
      · have hf := sm_t h102_83 hf
        refine lv_iconst (v := 2) hx hb d_Model_step_105 (by decide) ?_
        refine lv_goto hx hb d_Model_step_106 rfl ?_
        refine pf_Model_168 hC hK hG d_Model_step_110 (fun M110_85 H locs eM110_85 hG => ?_)
        have hf := sm_of eM110_85 hf
        obtain rfl := Option.some.inj hf
        exact sm_vret hC hr hlk hG d_Model_step_113
set_option maxHeartbeats 4000000 in
set_option maxRecDepth 100000 in
theorem jw_Model_step_32 {p : Program} {l : Launch} {e : Env} {s : State} {m : MethodId} {args : Array Value} {below : List Frame} {meth : Method} {c : Code} {v : sm_V} {o : sm_O} {M' : sm_M} (hC : CallFix p m c b_Model_step 11 s args w_Model_step R_Model) (hr : meth.sig.returnType = none) (hlk : meth.locks = false) (hK : sm_K v s) (M : sm_M) {H : Heap} {locs : List Loc} {ls : Array Slot} (hG : sm_G v M o s H locs) (hl : lv_has ls 11 [(0, .ref (sm_a v 68))]) (hf : j_Model_step_32 M = some M') : W p l e rm_Model_step s m args below meth c H locs 0 0 (MQ below (sm_Qv v M' o) args s 0 0 (sm_A v)) (F0 m 32 ls []) := by
  have hx := hC.1
  have hb := hC.2.1
  unfold j_Model_step_32 at hf
  refine lv_bipush (v := 31) hx hb d_Model_step_32 (by decide) ?_
  refine lv_goto hx hb d_Model_step_34 rfl ?_
  exact jw_Model_step_43 hC hr hlk hK M (31 : Int32) hG hl hf
set_option maxHeartbeats 4000000 in
set_option maxRecDepth 100000 in
theorem c_Model_step {l : Launch} {v : sm_V} {o : sm_O} {M : sm_M} {M' : sm_M} (hf : f_Model_step M = some M') : sm_Cv l y_Model_step w_Model_step rm_Model_step v [.ref (sm_a v 68)] M o M' := by
  refine sm_met (cc := b_Model_step) (nL := 11) (ret := none) (plainFor_of_name (by decide)) rfl (Nat.le_of_ble_eq_true rfl) (fun p e s m args below meth c hC hr hlk hK hG ls hl => ?_)
  have hx := hC.1
  have hb := hC.2.1
  have hl : lv_has ls 11 [(0, .ref (sm_a v 68))] := hl
  unfold f_Model_step at hf
  refine lv_aload_n hx hb d_Model_step_0 rfl (lv_at hl 0 rfl) ?_
  refine lv_dup hx hb d_Model_step_1 rfl ?_
  refine gf_Model_171 hC hK hG d_Model_step_2 ?_
  refine lv_iconst (v := 1) hx hb d_Model_step_5 (by decide) ?_
  refine lv_iadd hx hb d_Model_step_6 ?_
  refine pf_Model_171 hC hK hG d_Model_step_7 (fun M7_1 H locs eM7_1 hG => ?_)
  have hf := sm_of eM7_1 hf
  refine lv_aload_n hx hb d_Model_step_10 rfl (lv_at hl 0 rfl) ?_
  refine lv_aload_n hx hb d_Model_step_11 rfl (lv_at hl 0 rfl) ?_
  refine gf_Model_165 hC hK hG d_Model_step_12 ?_
  obtain ⟨r15_3, hc15_2, hf⟩ := sm_of_b1 hf
  refine ca_Model_179 hC hK hG (c_Model_find hc15_2) hl.1 ⟨Nat.le_of_ble_eq_true rfl, Nat.le_of_ble_eq_true rfl⟩ ⟨Nat.zero_le _, Nat.zero_le _⟩ (Nat.le_of_ble_eq_true rfl) d_Model_step_15 ?_
  refine lv_istore_n hx hb d_Model_step_18 rfl hl (Nat.le_of_ble_eq_true rfl) rfl (fun ls hl => ?_)
  have hl : lv_has ls 11 [(1, .int r15_3), (0, .ref (sm_a v 68))] := hl
  refine lv_iload_n hx hb d_Model_step_19 rfl (lv_at hl 0 rfl) ?_
  refine lv_iconst (v := -1) hx hb d_Model_step_20 (by decide) ?_
  refine lv_icmp_eq hx hb d_Model_step_21 rfl (fun h21_5 => ?_) (fun h21_5 => ?_)
  · have hf := sm_t h21_5 hf
    exact jw_Model_step_32 hC hr hlk hK M7_1 hG (lv_sub hl [1] rfl) hf
  · have hf := sm_f h21_5 hf
    refine lv_iload_n hx hb d_Model_step_24 rfl (lv_at hl 0 rfl) ?_
    refine lv_aload_n hx hb d_Model_step_25 rfl (lv_at hl 1 rfl) ?_
    refine gf_Model_156 hC hK hG d_Model_step_26 ?_
    refine lv_icmp_lt hx hb d_Model_step_29 rfl (fun h29_86 => ?_) (fun h29_86 => ?_)
    · have hf := sm_t h29_86 hf
      refine lv_aload_n hx hb d_Model_step_37 rfl (lv_at hl 1 rfl) ?_
      refine gf_Model_65 hC hK hG d_Model_step_38 ?_
      refine lv_iload_n hx hb d_Model_step_41 rfl (lv_at hl 0 rfl) ?_
      obtain ⟨h42_87, hf⟩ := sm_of_gd hf
      refine sm_iald hC hK hG (by decide) rfl h42_87 d_Model_step_42 ?_
      exact jw_Model_step_43 hC hr hlk hK M7_1 (M7_1 87 (Int32.toNatClampNeg r15_3)) hG (lv_sub hl [1] rfl) hf
    · have hf := sm_f h29_86 hf
      exact jw_Model_step_32 hC hr hlk hK M7_1 hG (lv_sub hl [1] rfl) hf
theorem ca_Model_189 {p : Program} {l : Launch} {e : Env} {R : Room} {s : State} {m : MethodId} {args : Array Value} {below : List Frame} {meth : Method} {c : Code} {H : Heap} {locs : List Loc} {cells slots : Nat} {Q : State → Prop} {cc : ByteArray} {nL pc : Nat} {ls : Array Slot} {rest : List Value} {w0 : Cond} {v : sm_V} {M : sm_M} {o : sm_O} {M' : sm_M} (hC : CallFix p m c cc nL s args (w0 :: sm_AW) R_Model) (hK : sm_K v s) (hG : sm_G v M o s H locs) (hM : sm_Cv l y_Model_step w_Model_step rm_Model_step v [.ref (sm_a v 68)] M o M') (hsz : ls.size = nL) (hR : rm_Model_step.frames + 1 ≤ R.frames ∧ 8 + (11 + 11) + rm_Model_step.locals ≤ R.locals) (hcs : cells + 0 ≤ R.cells ∧ slots + 0 ≤ R.slots) (hW : (rest.map fun v => v.category).sum ≤ 8) (hdg : decode cc pc = .ok (.invokevirtual 189, 3))
    (kk : ∀ (H : Heap) (locs : List Loc), sm_G v M' o s H locs → W p l e R s m args below meth c H locs cells slots Q (F0 m (pc + 3) ls (rest))) : W p l e R s m args below meth c H locs cells slots Q (F0 m pc ls (.ref (sm_a v 68) :: rest)) :=
  sm_callv (va_runV (C := R_Model) (As := []) (rest := rest) hC hM (cwV 0 hC.2.2.2.2 (sm_good (sm_inV aw_902 aw_904 as_40 aw_7 aw_905)) rfl rfl rfl (by decide +kernel) hR) (sm_preV hK hG (by decide) rfl rfl) rfl rfl hsz rfl (lv_room hW) hdg hcs) hG kk
abbrev w_Model_run : List Cond := Cond.code y_Model_run b_Model_run 3 (some .int) :: sm_AW
abbrev rm_Model_run : Room := { frames := 2, cells := 0, slots := 0, locals := 55 }
def g_Model_run_34 (w1 : Int32) (rec34 : sm_M → Int32 → Option (Int32 × sm_M)) (M : sm_M) (w2 : Int32) : Option (Int32 × sm_M) :=
(if (M 68 0) = 0 then
(if w1 ≤ w2 then
(some (w2, M))
else
(if (M 68 25) = (1 : Int32) then
sm_b1 (f_Model_step M) fun M55_8 =>
rec34 M55_8 (w2 + (1 : Int32))
else
(some (w2, M))))
else
(some (w2, M)))
def j_Model_run_29 (M : sm_M) (y1 : Int32) (z0 : Int32) : Option (Int32 × sm_M) :=
sm_nm (sm_up M 68 0 z0) fun M29_2 =>
sm_lp2 (g_Model_run_34 y1) 1100 M29_2 (0 : Int32)
def j_Model_run_13 (M : sm_M) (y1 : Int32) : Option (Int32 × sm_M) :=
j_Model_run_29 M y1 (1 : Int32)
def f_Model_run (M : sm_M) (a0 : Int32) : Option (Int32 × sm_M) :=
(if a0 < (1 : Int32) then
j_Model_run_13 M a0
else
(if a0 ≤ (500 : Int32) then
(if (M 68 25) = 0 then
j_Model_run_29 M a0 (2 : Int32)
else
j_Model_run_29 M a0 (0 : Int32))
else
j_Model_run_13 M a0))
set_option maxHeartbeats 4000000 in
set_option maxRecDepth 100000 in
theorem lw_Model_run_34 {p : Program} {l : Launch} {e : Env} {s : State} {m : MethodId} {args : Array Value} {below : List Frame} {meth : Method} {c : Code} {v : sm_V} {o : sm_O} {r : Int32} {M' : sm_M} (hC : CallFix p m c b_Model_run 3 s args w_Model_run R_Model) (hr : meth.sig.returnType = some .int) (hlk : meth.locks = false) (hK : sm_K v s) (w1 : Int32) :
    ∀ (n : Nat) (M : sm_M) (w2 : Int32) (H : Heap) (locs : List Loc) (ls : Array Slot), sm_G v M o s H locs → lv_has ls 3 [(2, .int w2), (0, .ref (sm_a v 68)), (1, .int w1)] → sm_lp2 (g_Model_run_34 w1) n M w2 = some (r, M') → W p l e rm_Model_run s m args below meth c H locs 0 0 (MQ below (sm_Qi v M' o r) args s 0 0 (sm_A v)) (F0 m 34 ls []) := by
  have hx := hC.1
  have hb := hC.2.1
  intro n
  induction n with
  | zero =>
    intro M w2 H locs ls hG hl hf
    cases hf
  | succ n ih =>
    intro M w2 H locs ls hG hl hf
    have hf : g_Model_run_34 w1 (sm_lp2 (g_Model_run_34 w1) n) M w2 = some (r, M') := hf
    unfold g_Model_run_34 at hf
    refine lv_aload_n hx hb d_Model_run_34 rfl (lv_at hl 1 rfl) ?_
    refine gf_Model_74 hC hK hG d_Model_run_35 ?_
    refine lv_if_ne hx hb d_Model_run_38 rfl (fun h38_3 => ?_) (fun h38_3 => ?_)
    · have hf := sm_f h38_3 hf
      refine lv_iload_n hx hb d_Model_run_64 rfl (lv_at hl 0 rfl) ?_
      obtain ⟨rfl, rfl⟩ := Prod.mk.inj (Option.some.inj hf)
      exact sm_iret hC hr hlk hG d_Model_run_65
    · have hf := sm_t h38_3 hf
      refine lv_iload_n hx hb d_Model_run_41 rfl (lv_at hl 0 rfl) ?_
      refine lv_iload_n hx hb d_Model_run_42 rfl (lv_at hl 2 rfl) ?_
      refine lv_icmp_ge hx hb d_Model_run_43 rfl (fun h43_4 => ?_) (fun h43_4 => ?_)
      · have hf := sm_t h43_4 hf
        refine lv_iload_n hx hb d_Model_run_64 rfl (lv_at hl 0 rfl) ?_
        obtain ⟨rfl, rfl⟩ := Prod.mk.inj (Option.some.inj hf)
        exact sm_iret hC hr hlk hG d_Model_run_65
      · have hf := sm_f h43_4 hf
        refine lv_aload_n hx hb d_Model_run_46 rfl (lv_at hl 1 rfl) ?_
        refine gf_Model_168 hC hK hG d_Model_run_47 ?_
        refine lv_iconst (v := 1) hx hb d_Model_run_50 (by decide) ?_
        refine lv_icmp_ne hx hb d_Model_run_51 rfl (fun h51_5 => ?_) (fun h51_5 => ?_)
        · have hf := sm_f h51_5 hf
          refine lv_iload_n hx hb d_Model_run_64 rfl (lv_at hl 0 rfl) ?_
          obtain ⟨rfl, rfl⟩ := Prod.mk.inj (Option.some.inj hf)
          exact sm_iret hC hr hlk hG d_Model_run_65
        · have hf := sm_t h51_5 hf
          refine lv_aload_n hx hb d_Model_run_54 rfl (lv_at hl 1 rfl) ?_
          obtain ⟨M55_8, hc55_6, hf⟩ := sm_of_b1 hf
          refine ca_Model_189 hC hK hG (c_Model_step hc55_6) hl.1 ⟨Nat.le_of_ble_eq_true rfl, Nat.le_of_ble_eq_true rfl⟩ ⟨Nat.zero_le _, Nat.zero_le _⟩ (Nat.le_of_ble_eq_true rfl) d_Model_run_55 (fun H locs hG => ?_)
          refine lv_iinc (v := w2 + (1 : Int32)) (k := 0) hx hb d_Model_run_58 hl rfl rfl (Nat.le_of_ble_eq_true rfl) rfl (fun ls hl => ?_)
          have hl : lv_has ls 3 [(2, .int (w2 + (1 : Int32))), (0, .ref (sm_a v 68)), (1, .int w1)] := hl
          refine lv_goto hx hb d_Model_run_61 rfl ?_
          exact ih _ _ _ _ ls hG hl hf
set_option maxHeartbeats 4000000 in
set_option maxRecDepth 100000 in
theorem jw_Model_run_29 {p : Program} {l : Launch} {e : Env} {s : State} {m : MethodId} {args : Array Value} {below : List Frame} {meth : Method} {c : Code} {v : sm_V} {o : sm_O} {r : Int32} {M' : sm_M} (hC : CallFix p m c b_Model_run 3 s args w_Model_run R_Model) (hr : meth.sig.returnType = some .int) (hlk : meth.locks = false) (hK : sm_K v s) (M : sm_M) (y1 : Int32) (z0 : Int32) {H : Heap} {locs : List Loc} {ls : Array Slot} (hG : sm_G v M o s H locs) (hl : lv_has ls 3 [(0, .ref (sm_a v 68)), (1, .int y1)]) (hf : j_Model_run_29 M y1 z0 = some (r, M')) : W p l e rm_Model_run s m args below meth c H locs 0 0 (MQ below (sm_Qi v M' o r) args s 0 0 (sm_A v)) (F0 m 29 ls [.int z0, .ref (sm_a v 68)]) := by
  have hx := hC.1
  have hb := hC.2.1
  unfold j_Model_run_29 at hf
  refine pf_Model_74 hC hK hG d_Model_run_29 (fun M29_2 H locs eM29_2 hG => ?_)
  have hf := sm_of eM29_2 hf
  refine lv_iconst (v := 0) hx hb d_Model_run_32 (by decide) ?_
  refine lv_istore_n hx hb d_Model_run_33 rfl hl (Nat.le_of_ble_eq_true rfl) rfl (fun ls hl => ?_)
  have hl : lv_has ls 3 [(2, .int (0 : Int32)), (0, .ref (sm_a v 68)), (1, .int y1)] := hl
  exact lw_Model_run_34 hC hr hlk hK y1 1100 _ _ _ _ ls hG hl hf
set_option maxHeartbeats 4000000 in
set_option maxRecDepth 100000 in
theorem jw_Model_run_13 {p : Program} {l : Launch} {e : Env} {s : State} {m : MethodId} {args : Array Value} {below : List Frame} {meth : Method} {c : Code} {v : sm_V} {o : sm_O} {r : Int32} {M' : sm_M} (hC : CallFix p m c b_Model_run 3 s args w_Model_run R_Model) (hr : meth.sig.returnType = some .int) (hlk : meth.locks = false) (hK : sm_K v s) (M : sm_M) (y1 : Int32) {H : Heap} {locs : List Loc} {ls : Array Slot} (hG : sm_G v M o s H locs) (hl : lv_has ls 3 [(0, .ref (sm_a v 68)), (1, .int y1)]) (hf : j_Model_run_13 M y1 = some (r, M')) : W p l e rm_Model_run s m args below meth c H locs 0 0 (MQ below (sm_Qi v M' o r) args s 0 0 (sm_A v)) (F0 m 13 ls [.ref (sm_a v 68)]) := by
  have hx := hC.1
  have hb := hC.2.1
  unfold j_Model_run_13 at hf
  refine lv_iconst (v := 1) hx hb d_Model_run_13 (by decide) ?_
  refine lv_goto hx hb d_Model_run_14 rfl ?_
  exact jw_Model_run_29 hC hr hlk hK M y1 (1 : Int32) hG hl hf
set_option maxHeartbeats 4000000 in
set_option maxRecDepth 100000 in
theorem c_Model_run {l : Launch} {v : sm_V} {o : sm_O} {M : sm_M} {a0 : Int32} {r : Int32} {M' : sm_M} (hf : f_Model_run M a0 = some (r, M')) : sm_Ci l y_Model_run w_Model_run rm_Model_run v [.ref (sm_a v 68), .int a0] M o r M' := by
  refine sm_met (cc := b_Model_run) (nL := 3) (ret := some .int) (plainFor_of_name (by decide)) rfl (Nat.le_of_ble_eq_true rfl) (fun p e s m args below meth c hC hr hlk hK hG ls hl => ?_)
  have hx := hC.1
  have hb := hC.2.1
  have hl : lv_has ls 3 [(0, .ref (sm_a v 68)), (1, .int a0)] := hl
  unfold f_Model_run at hf
  refine lv_aload_n hx hb d_Model_run_0 rfl (lv_at hl 0 rfl) ?_
  refine lv_iload_n hx hb d_Model_run_1 rfl (lv_at hl 1 rfl) ?_
  refine lv_iconst (v := 1) hx hb d_Model_run_2 (by decide) ?_
  refine lv_icmp_lt hx hb d_Model_run_3 rfl (fun h3_1 => ?_) (fun h3_1 => ?_)
  · have hf := sm_t h3_1 hf
    exact jw_Model_run_13 hC hr hlk hK M a0 hG hl hf
  · have hf := sm_f h3_1 hf
    refine lv_iload_n hx hb d_Model_run_6 rfl (lv_at hl 1 rfl) ?_
    refine lv_sipush (v := 500) hx hb d_Model_run_7 (by decide) ?_
    refine lv_icmp_le hx hb d_Model_run_10 rfl (fun h10_9 => ?_) (fun h10_9 => ?_)
    · have hf := sm_t h10_9 hf
      refine lv_aload_n hx hb d_Model_run_17 rfl (lv_at hl 0 rfl) ?_
      refine gf_Model_168 hC hK hG d_Model_run_18 ?_
      refine lv_if_ne hx hb d_Model_run_21 rfl (fun h21_10 => ?_) (fun h21_10 => ?_)
      · have hf := sm_f h21_10 hf
        refine lv_iconst (v := 0) hx hb d_Model_run_28 (by decide) ?_
        exact jw_Model_run_29 hC hr hlk hK M a0 (0 : Int32) hG hl hf
      · have hf := sm_t h21_10 hf
        refine lv_iconst (v := 2) hx hb d_Model_run_24 (by decide) ?_
        refine lv_goto hx hb d_Model_run_25 rfl ?_
        exact jw_Model_run_29 hC hr hlk hK M a0 (2 : Int32) hG hl hf
    · have hf := sm_f h10_9 hf
      exact jw_Model_run_13 hC hr hlk hK M a0 hG hl hf
abbrev w_Model_value : List Cond := Cond.code y_Model_value b_Model_value 2 (some .int) :: sm_AW
abbrev rm_Model_value : Room := { frames := 1, cells := 0, slots := 0, locals := 22 }
def f_Model_value (M : sm_M) (a0 : Int32) : Option (Int32 × sm_M) :=
sm_nm (sm_up M 68 0 (0 : Int32)) fun M2_1 =>
sm_b1 (f_Model_within a0 (0 : Int32) (15 : Int32)) fun r9_3 =>
(if r9_3 = 0 then
(some ((-1 : Int32), M2_1))
else
sm_gd a0 16 (
(if (M2_1 84 (Int32.toNatClampNeg a0)) = 0 then
(some ((-1 : Int32), M2_1))
else
sm_gd a0 16 (
(some (M2_1 85 (Int32.toNatClampNeg a0), M2_1))))))
set_option maxHeartbeats 4000000 in
set_option maxRecDepth 100000 in
theorem c_Model_value {l : Launch} {v : sm_V} {o : sm_O} {M : sm_M} {a0 : Int32} {r : Int32} {M' : sm_M} (hf : f_Model_value M a0 = some (r, M')) : sm_Ci l y_Model_value w_Model_value rm_Model_value v [.ref (sm_a v 68), .int a0] M o r M' := by
  refine sm_met (cc := b_Model_value) (nL := 2) (ret := some .int) (plainFor_of_name (by decide)) rfl (Nat.le_of_ble_eq_true rfl) (fun p e s m args below meth c hC hr hlk hK hG ls hl => ?_)
  have hx := hC.1
  have hb := hC.2.1
  have hl : lv_has ls 2 [(0, .ref (sm_a v 68)), (1, .int a0)] := hl
  unfold f_Model_value at hf
  refine lv_aload_n hx hb d_Model_value_0 rfl (lv_at hl 0 rfl) ?_
  refine lv_iconst (v := 0) hx hb d_Model_value_1 (by decide) ?_
  refine pf_Model_74 hC hK hG d_Model_value_2 (fun M2_1 H locs eM2_1 hG => ?_)
  have hf := sm_of eM2_1 hf
  refine lv_iload_n hx hb d_Model_value_5 rfl (lv_at hl 1 rfl) ?_
  refine lv_iconst (v := 0) hx hb d_Model_value_6 (by decide) ?_
  refine lv_bipush (v := 15) hx hb d_Model_value_7 (by decide) ?_
  obtain ⟨r9_3, hc9_2, hf⟩ := sm_of_b1 hf
  refine ca_Model_82 hC hK hG (c_Model_within hc9_2) hl.1 ⟨Nat.le_of_ble_eq_true rfl, Nat.le_of_ble_eq_true rfl⟩ ⟨Nat.zero_le _, Nat.zero_le _⟩ (Nat.le_of_ble_eq_true rfl) d_Model_value_9 ?_
  refine lv_if_eq hx hb d_Model_value_12 rfl (fun h12_5 => ?_) (fun h12_5 => ?_)
  · have hf := sm_t h12_5 hf
    refine lv_iconst (v := -1) hx hb d_Model_value_33 (by decide) ?_
    obtain ⟨rfl, rfl⟩ := Prod.mk.inj (Option.some.inj hf)
    exact sm_iret hC hr hlk hG d_Model_value_34
  · have hf := sm_f h12_5 hf
    refine lv_aload_n hx hb d_Model_value_15 rfl (lv_at hl 0 rfl) ?_
    refine gf_Model_56 hC hK hG d_Model_value_16 ?_
    refine lv_iload_n hx hb d_Model_value_19 rfl (lv_at hl 1 rfl) ?_
    obtain ⟨h20_6, hf⟩ := sm_of_gd hf
    refine sm_zald hC hK hG (by decide) rfl h20_6 d_Model_value_20 ?_
    refine lv_if_eq hx hb d_Model_value_21 rfl (fun h21_7 => ?_) (fun h21_7 => ?_)
    · have hf := sm_t h21_7 hf
      refine lv_iconst (v := -1) hx hb d_Model_value_33 (by decide) ?_
      obtain ⟨rfl, rfl⟩ := Prod.mk.inj (Option.some.inj hf)
      exact sm_iret hC hr hlk hG d_Model_value_34
    · have hf := sm_f h21_7 hf
      refine lv_aload_n hx hb d_Model_value_24 rfl (lv_at hl 0 rfl) ?_
      refine gf_Model_59 hC hK hG d_Model_value_25 ?_
      refine lv_iload_n hx hb d_Model_value_28 rfl (lv_at hl 1 rfl) ?_
      obtain ⟨h29_8, hf⟩ := sm_of_gd hf
      refine sm_iald hC hK hG (by decide) rfl h29_8 d_Model_value_29 ?_
      refine lv_goto hx hb d_Model_value_30 rfl ?_
      obtain ⟨rfl, rfl⟩ := Prod.mk.inj (Option.some.inj hf)
      exact sm_iret hC hr hlk hG d_Model_value_34
abbrev w_Model_register : List Cond := Cond.code y_Model_register b_Model_register 2 (some .int) :: sm_AW
abbrev rm_Model_register : Room := { frames := 1, cells := 0, slots := 0, locals := 22 }
def f_Model_register (M : sm_M) (a0 : Int32) : Option (Int32 × sm_M) :=
sm_nm (sm_up M 68 0 (0 : Int32)) fun M2_1 =>
sm_b1 (f_Model_within a0 (0 : Int32) (31 : Int32)) fun r9_3 =>
(if r9_3 = 0 then
(some ((0 : Int32), M2_1))
else
sm_gd a0 32 (
(some (M2_1 88 (Int32.toNatClampNeg a0), M2_1))))
set_option maxHeartbeats 4000000 in
set_option maxRecDepth 100000 in
theorem c_Model_register {l : Launch} {v : sm_V} {o : sm_O} {M : sm_M} {a0 : Int32} {r : Int32} {M' : sm_M} (hf : f_Model_register M a0 = some (r, M')) : sm_Ci l y_Model_register w_Model_register rm_Model_register v [.ref (sm_a v 68), .int a0] M o r M' := by
  refine sm_met (cc := b_Model_register) (nL := 2) (ret := some .int) (plainFor_of_name (by decide)) rfl (Nat.le_of_ble_eq_true rfl) (fun p e s m args below meth c hC hr hlk hK hG ls hl => ?_)
  have hx := hC.1
  have hb := hC.2.1
  have hl : lv_has ls 2 [(0, .ref (sm_a v 68)), (1, .int a0)] := hl
  unfold f_Model_register at hf
  refine lv_aload_n hx hb d_Model_register_0 rfl (lv_at hl 0 rfl) ?_
  refine lv_iconst (v := 0) hx hb d_Model_register_1 (by decide) ?_
  refine pf_Model_74 hC hK hG d_Model_register_2 (fun M2_1 H locs eM2_1 hG => ?_)
  have hf := sm_of eM2_1 hf
  refine lv_iload_n hx hb d_Model_register_5 rfl (lv_at hl 1 rfl) ?_
  refine lv_iconst (v := 0) hx hb d_Model_register_6 (by decide) ?_
  refine lv_bipush (v := 31) hx hb d_Model_register_7 (by decide) ?_
  obtain ⟨r9_3, hc9_2, hf⟩ := sm_of_b1 hf
  refine ca_Model_82 hC hK hG (c_Model_within hc9_2) hl.1 ⟨Nat.le_of_ble_eq_true rfl, Nat.le_of_ble_eq_true rfl⟩ ⟨Nat.zero_le _, Nat.zero_le _⟩ (Nat.le_of_ble_eq_true rfl) d_Model_register_9 ?_
  refine lv_if_eq hx hb d_Model_register_12 rfl (fun h12_5 => ?_) (fun h12_5 => ?_)
  · have hf := sm_t h12_5 hf
    refine lv_iconst (v := 0) hx hb d_Model_register_24 (by decide) ?_
    obtain ⟨rfl, rfl⟩ := Prod.mk.inj (Option.some.inj hf)
    exact sm_iret hC hr hlk hG d_Model_register_25
  · have hf := sm_f h12_5 hf
    refine lv_aload_n hx hb d_Model_register_15 rfl (lv_at hl 0 rfl) ?_
    refine gf_Model_68 hC hK hG d_Model_register_16 ?_
    refine lv_iload_n hx hb d_Model_register_19 rfl (lv_at hl 1 rfl) ?_
    obtain ⟨h20_6, hf⟩ := sm_of_gd hf
    refine sm_iald hC hK hG (by decide) rfl h20_6 d_Model_register_20 ?_
    refine lv_goto hx hb d_Model_register_21 rfl ?_
    obtain ⟨rfl, rfl⟩ := Prod.mk.inj (Option.some.inj hf)
    exact sm_iret hC hr hlk hG d_Model_register_25
abbrev w_Model_memory : List Cond := Cond.code y_Model_memory b_Model_memory 3 (some .int) :: sm_AW
abbrev rm_Model_memory : Room := { frames := 1, cells := 0, slots := 0, locals := 25 }
def j_Model_memory_17 (M : sm_M) (y2 : Int32) (z0 : Int32) : Option (Int32 × sm_M) :=
sm_nm (sm_up M 68 0 z0) fun M17_5 =>
(if (M17_5 68 0) ≤ 0 then
sm_gd y2 250 (
(some (M17_5 87 (Int32.toNatClampNeg y2), M17_5)))
else
(some ((0 : Int32), M17_5)))
def f_Model_memory (M : sm_M) (a0 : Int32) : Option (Int32 × sm_M) :=
sm_b1 (f_Model_find M a0) fun r2_2 =>
(if r2_2 = (-1 : Int32) then
j_Model_memory_17 M r2_2 (1 : Int32)
else
j_Model_memory_17 M r2_2 (0 : Int32))
set_option maxHeartbeats 4000000 in
set_option maxRecDepth 100000 in
theorem jw_Model_memory_17 {p : Program} {l : Launch} {e : Env} {s : State} {m : MethodId} {args : Array Value} {below : List Frame} {meth : Method} {c : Code} {v : sm_V} {o : sm_O} {r : Int32} {M' : sm_M} (hC : CallFix p m c b_Model_memory 3 s args w_Model_memory R_Model) (hr : meth.sig.returnType = some .int) (hlk : meth.locks = false) (hK : sm_K v s) (M : sm_M) (y2 : Int32) (z0 : Int32) {H : Heap} {locs : List Loc} {ls : Array Slot} (hG : sm_G v M o s H locs) (hl : lv_has ls 3 [(2, .int y2), (0, .ref (sm_a v 68))]) (hf : j_Model_memory_17 M y2 z0 = some (r, M')) : W p l e rm_Model_memory s m args below meth c H locs 0 0 (MQ below (sm_Qi v M' o r) args s 0 0 (sm_A v)) (F0 m 17 ls [.int z0, .ref (sm_a v 68)]) := by
  have hx := hC.1
  have hb := hC.2.1
  unfold j_Model_memory_17 at hf
  refine pf_Model_74 hC hK hG d_Model_memory_17 (fun M17_5 H locs eM17_5 hG => ?_)
  have hf := sm_of eM17_5 hf
  refine lv_aload_n hx hb d_Model_memory_20 rfl (lv_at hl 1 rfl) ?_
  refine gf_Model_74 hC hK hG d_Model_memory_21 ?_
  refine lv_if_le hx hb d_Model_memory_24 rfl (fun h24_6 => ?_) (fun h24_6 => ?_)
  · have hf := sm_t h24_6 hf
    refine lv_aload_n hx hb d_Model_memory_31 rfl (lv_at hl 1 rfl) ?_
    refine gf_Model_65 hC hK hG d_Model_memory_32 ?_
    refine lv_iload_n hx hb d_Model_memory_35 rfl (lv_at hl 0 rfl) ?_
    obtain ⟨h36_7, hf⟩ := sm_of_gd hf
    refine sm_iald hC hK hG (by decide) rfl h36_7 d_Model_memory_36 ?_
    obtain ⟨rfl, rfl⟩ := Prod.mk.inj (Option.some.inj hf)
    exact sm_iret hC hr hlk hG d_Model_memory_37
  · have hf := sm_f h24_6 hf
    refine lv_iconst (v := 0) hx hb d_Model_memory_27 (by decide) ?_
    refine lv_goto hx hb d_Model_memory_28 rfl ?_
    obtain ⟨rfl, rfl⟩ := Prod.mk.inj (Option.some.inj hf)
    exact sm_iret hC hr hlk hG d_Model_memory_37
set_option maxHeartbeats 4000000 in
set_option maxRecDepth 100000 in
theorem c_Model_memory {l : Launch} {v : sm_V} {o : sm_O} {M : sm_M} {a0 : Int32} {r : Int32} {M' : sm_M} (hf : f_Model_memory M a0 = some (r, M')) : sm_Ci l y_Model_memory w_Model_memory rm_Model_memory v [.ref (sm_a v 68), .int a0] M o r M' := by
  refine sm_met (cc := b_Model_memory) (nL := 3) (ret := some .int) (plainFor_of_name (by decide)) rfl (Nat.le_of_ble_eq_true rfl) (fun p e s m args below meth c hC hr hlk hK hG ls hl => ?_)
  have hx := hC.1
  have hb := hC.2.1
  have hl : lv_has ls 3 [(0, .ref (sm_a v 68)), (1, .int a0)] := hl
  unfold f_Model_memory at hf
  refine lv_aload_n hx hb d_Model_memory_0 rfl (lv_at hl 0 rfl) ?_
  refine lv_iload_n hx hb d_Model_memory_1 rfl (lv_at hl 1 rfl) ?_
  obtain ⟨r2_2, hc2_1, hf⟩ := sm_of_b1 hf
  refine ca_Model_179 hC hK hG (c_Model_find hc2_1) hl.1 ⟨Nat.le_of_ble_eq_true rfl, Nat.le_of_ble_eq_true rfl⟩ ⟨Nat.zero_le _, Nat.zero_le _⟩ (Nat.le_of_ble_eq_true rfl) d_Model_memory_2 ?_
  refine lv_istore_n hx hb d_Model_memory_5 rfl hl (Nat.le_of_ble_eq_true rfl) rfl (fun ls hl => ?_)
  have hl : lv_has ls 3 [(2, .int r2_2), (0, .ref (sm_a v 68)), (1, .int a0)] := hl
  have hl : lv_has ls 3 [(2, .int r2_2), (0, .ref (sm_a v 68))] := lv_sub hl [0, 1] rfl
  refine lv_aload_n hx hb d_Model_memory_6 rfl (lv_at hl 1 rfl) ?_
  refine lv_iload_n hx hb d_Model_memory_7 rfl (lv_at hl 0 rfl) ?_
  refine lv_iconst (v := -1) hx hb d_Model_memory_8 (by decide) ?_
  refine lv_icmp_ne hx hb d_Model_memory_9 rfl (fun h9_4 => ?_) (fun h9_4 => ?_)
  · have hf := sm_f h9_4 hf
    refine lv_iconst (v := 0) hx hb d_Model_memory_16 (by decide) ?_
    exact jw_Model_memory_17 hC hr hlk hK M r2_2 (0 : Int32) hG hl hf
  · have hf := sm_t h9_4 hf
    refine lv_iconst (v := 1) hx hb d_Model_memory_12 (by decide) ?_
    refine lv_goto hx hb d_Model_memory_13 rfl ?_
    exact jw_Model_memory_17 hC hr hlk hK M r2_2 (1 : Int32) hG hl hf
abbrev w_Model_shown : List Cond := Cond.code y_Model_shown b_Model_shown 2 (some .int) :: sm_AW
abbrev rm_Model_shown : Room := { frames := 0, cells := 0, slots := 0, locals := 0 }
def f_Model_shown (M : sm_M) (a0 : Int32) : Option (Int32 × sm_M) :=
sm_nm (sm_up M 68 0 (0 : Int32)) fun M2_1 =>
(if a0 < 0 then
(some ((-1 : Int32), M2_1))
else
(if (15 : Int32) < a0 then
(some ((-1 : Int32), M2_1))
else
(if a0 < (M2_1 68 29) then
sm_gd ((((M2_1 68 29) - (1 : Int32)) - a0) - (((M2_1 68 29) - (1 : Int32)) - a0) / (16 : Int32) * (16 : Int32)) 16 (
(some (M2_1 89 (Int32.toNatClampNeg ((((M2_1 68 29) - (1 : Int32)) - a0) - (((M2_1 68 29) - (1 : Int32)) - a0) / (16 : Int32) * (16 : Int32))), M2_1)))
else
(some ((-1 : Int32), M2_1)))))
set_option maxHeartbeats 4000000 in
set_option maxRecDepth 100000 in
theorem c_Model_shown {l : Launch} {v : sm_V} {o : sm_O} {M : sm_M} {a0 : Int32} {r : Int32} {M' : sm_M} (hf : f_Model_shown M a0 = some (r, M')) : sm_Ci l y_Model_shown w_Model_shown rm_Model_shown v [.ref (sm_a v 68), .int a0] M o r M' := by
  refine sm_met (cc := b_Model_shown) (nL := 2) (ret := some .int) (plainFor_of_name (by decide)) rfl (Nat.le_of_ble_eq_true rfl) (fun p e s m args below meth c hC hr hlk hK hG ls hl => ?_)
  have hx := hC.1
  have hb := hC.2.1
  have hl : lv_has ls 2 [(0, .ref (sm_a v 68)), (1, .int a0)] := hl
  unfold f_Model_shown at hf
  refine lv_aload_n hx hb d_Model_shown_0 rfl (lv_at hl 0 rfl) ?_
  refine lv_iconst (v := 0) hx hb d_Model_shown_1 (by decide) ?_
  refine pf_Model_74 hC hK hG d_Model_shown_2 (fun M2_1 H locs eM2_1 hG => ?_)
  have hf := sm_of eM2_1 hf
  refine lv_iload_n hx hb d_Model_shown_5 rfl (lv_at hl 1 rfl) ?_
  refine lv_if_lt hx hb d_Model_shown_6 rfl (fun h6_2 => ?_) (fun h6_2 => ?_)
  · have hf := sm_t h6_2 hf
    refine lv_iconst (v := -1) hx hb d_Model_shown_23 (by decide) ?_
    refine lv_goto hx hb d_Model_shown_24 rfl ?_
    obtain ⟨rfl, rfl⟩ := Prod.mk.inj (Option.some.inj hf)
    exact sm_iret hC hr hlk hG d_Model_shown_43
  · have hf := sm_f h6_2 hf
    refine lv_iload_n hx hb d_Model_shown_9 rfl (lv_at hl 1 rfl) ?_
    refine lv_bipush (v := 15) hx hb d_Model_shown_10 (by decide) ?_
    refine lv_icmp_gt hx hb d_Model_shown_12 rfl (fun h12_3 => ?_) (fun h12_3 => ?_)
    · have hf := sm_t h12_3 hf
      refine lv_iconst (v := -1) hx hb d_Model_shown_23 (by decide) ?_
      refine lv_goto hx hb d_Model_shown_24 rfl ?_
      obtain ⟨rfl, rfl⟩ := Prod.mk.inj (Option.some.inj hf)
      exact sm_iret hC hr hlk hG d_Model_shown_43
    · have hf := sm_f h12_3 hf
      refine lv_iload_n hx hb d_Model_shown_15 rfl (lv_at hl 1 rfl) ?_
      refine lv_aload_n hx hb d_Model_shown_16 rfl (lv_at hl 0 rfl) ?_
      refine gf_Model_174 hC hK hG d_Model_shown_17 ?_
      refine lv_icmp_lt hx hb d_Model_shown_20 rfl (fun h20_4 => ?_) (fun h20_4 => ?_)
      · have hf := sm_t h20_4 hf
        refine lv_aload_n hx hb d_Model_shown_27 rfl (lv_at hl 0 rfl) ?_
        refine gf_Model_71 hC hK hG d_Model_shown_28 ?_
        refine lv_aload_n hx hb d_Model_shown_31 rfl (lv_at hl 0 rfl) ?_
        refine gf_Model_174 hC hK hG d_Model_shown_32 ?_
        refine lv_iconst (v := 1) hx hb d_Model_shown_35 (by decide) ?_
        refine lv_isub hx hb d_Model_shown_36 ?_
        refine lv_iload_n hx hb d_Model_shown_37 rfl (lv_at hl 1 rfl) ?_
        refine lv_isub hx hb d_Model_shown_38 ?_
        refine lv_bipush (v := 16) hx hb d_Model_shown_39 (by decide) ?_
        refine lv_irem hx hb d_Model_shown_41 (by decide) ?_
        obtain ⟨h42_5, hf⟩ := sm_of_gd hf
        refine sm_iald hC hK hG (by decide) rfl h42_5 d_Model_shown_42 ?_
        obtain ⟨rfl, rfl⟩ := Prod.mk.inj (Option.some.inj hf)
        exact sm_iret hC hr hlk hG d_Model_shown_43
      · have hf := sm_f h20_4 hf
        refine lv_iconst (v := -1) hx hb d_Model_shown_23 (by decide) ?_
        refine lv_goto hx hb d_Model_shown_24 rfl ?_
        obtain ⟨rfl, rfl⟩ := Prod.mk.inj (Option.some.inj hf)
        exact sm_iret hC hr hlk hG d_Model_shown_43
abbrev w_Model_about : List Cond := Cond.code y_Model_about b_Model_about 2 (some .int) :: sm_AW
abbrev rm_Model_about : Room := { frames := 0, cells := 0, slots := 0, locals := 0 }
def f_Model_about (M : sm_M) (a0 : Int32) : Option (Int32 × sm_M) :=
sm_nm (sm_up M 68 0 (0 : Int32)) fun M2_1 =>
(if a0 = 0 then
(some (M2_1 68 18, M2_1))
else
(if a0 = 1 then
(some (M2_1 68 25, M2_1))
else
(if a0 = 2 then
(some (M2_1 68 26, M2_1))
else
(if a0 = 3 then
(some (M2_1 68 27, M2_1))
else
(if a0 = 4 then
(some (M2_1 68 29, M2_1))
else
(some ((-1 : Int32), M2_1)))))))
set_option maxHeartbeats 4000000 in
set_option maxRecDepth 100000 in
theorem c_Model_about {l : Launch} {v : sm_V} {o : sm_O} {M : sm_M} {a0 : Int32} {r : Int32} {M' : sm_M} (hf : f_Model_about M a0 = some (r, M')) : sm_Ci l y_Model_about w_Model_about rm_Model_about v [.ref (sm_a v 68), .int a0] M o r M' := by
  refine sm_met (cc := b_Model_about) (nL := 2) (ret := some .int) (plainFor_of_name (by decide)) rfl (Nat.le_of_ble_eq_true rfl) (fun p e s m args below meth c hC hr hlk hK hG ls hl => ?_)
  have hx := hC.1
  have hb := hC.2.1
  have hl : lv_has ls 2 [(0, .ref (sm_a v 68)), (1, .int a0)] := hl
  unfold f_Model_about at hf
  refine lv_aload_n hx hb d_Model_about_0 rfl (lv_at hl 0 rfl) ?_
  refine lv_iconst (v := 0) hx hb d_Model_about_1 (by decide) ?_
  refine pf_Model_74 hC hK hG d_Model_about_2 (fun M2_1 H locs eM2_1 hG => ?_)
  have hf := sm_of eM2_1 hf
  refine lv_iload_n hx hb d_Model_about_5 rfl (lv_at hl 1 rfl) ?_
  by_cases h6_2 : a0 = 0
  · have hf := sm_t h6_2 hf
    refine lv_tableIn (tgt := 40) hx hb d_Model_about_6 (by rw [h6_2]; decide) (by rw [h6_2]; decide) (by rw [h6_2]; rfl) rfl ?_
    refine lv_aload_n hx hb d_Model_about_40 rfl (lv_at hl 0 rfl) ?_
    refine gf_Model_122 hC hK hG d_Model_about_41 ?_
    obtain ⟨rfl, rfl⟩ := Prod.mk.inj (Option.some.inj hf)
    exact sm_iret hC hr hlk hG d_Model_about_44
  have hf := sm_f h6_2 hf
  by_cases h6_3 : a0 = 1
  · have hf := sm_t h6_3 hf
    refine lv_tableIn (tgt := 45) hx hb d_Model_about_6 (by rw [h6_3]; decide) (by rw [h6_3]; decide) (by rw [h6_3]; rfl) rfl ?_
    refine lv_aload_n hx hb d_Model_about_45 rfl (lv_at hl 0 rfl) ?_
    refine gf_Model_168 hC hK hG d_Model_about_46 ?_
    obtain ⟨rfl, rfl⟩ := Prod.mk.inj (Option.some.inj hf)
    exact sm_iret hC hr hlk hG d_Model_about_49
  have hf := sm_f h6_3 hf
  by_cases h6_4 : a0 = 2
  · have hf := sm_t h6_4 hf
    refine lv_tableIn (tgt := 50) hx hb d_Model_about_6 (by rw [h6_4]; decide) (by rw [h6_4]; decide) (by rw [h6_4]; rfl) rfl ?_
    refine lv_aload_n hx hb d_Model_about_50 rfl (lv_at hl 0 rfl) ?_
    refine gf_Model_165 hC hK hG d_Model_about_51 ?_
    obtain ⟨rfl, rfl⟩ := Prod.mk.inj (Option.some.inj hf)
    exact sm_iret hC hr hlk hG d_Model_about_54
  have hf := sm_f h6_4 hf
  by_cases h6_5 : a0 = 3
  · have hf := sm_t h6_5 hf
    refine lv_tableIn (tgt := 55) hx hb d_Model_about_6 (by rw [h6_5]; decide) (by rw [h6_5]; decide) (by rw [h6_5]; rfl) rfl ?_
    refine lv_aload_n hx hb d_Model_about_55 rfl (lv_at hl 0 rfl) ?_
    refine gf_Model_171 hC hK hG d_Model_about_56 ?_
    obtain ⟨rfl, rfl⟩ := Prod.mk.inj (Option.some.inj hf)
    exact sm_iret hC hr hlk hG d_Model_about_59
  have hf := sm_f h6_5 hf
  by_cases h6_6 : a0 = 4
  · have hf := sm_t h6_6 hf
    refine lv_tableIn (tgt := 60) hx hb d_Model_about_6 (by rw [h6_6]; decide) (by rw [h6_6]; decide) (by rw [h6_6]; rfl) rfl ?_
    refine lv_aload_n hx hb d_Model_about_60 rfl (lv_at hl 0 rfl) ?_
    refine gf_Model_174 hC hK hG d_Model_about_61 ?_
    obtain ⟨rfl, rfl⟩ := Prod.mk.inj (Option.some.inj hf)
    exact sm_iret hC hr hlk hG d_Model_about_64
  have hf := sm_f h6_6 hf
  refine lv_tableOut (tgt := 65) hx hb d_Model_about_6 (by have := lv_neT (a := 0) h6_2 rfl; have := lv_neT (a := 1) h6_3 rfl; have := lv_neT (a := 2) h6_4 rfl; have := lv_neT (a := 3) h6_5 rfl; have := lv_neT (a := 4) h6_6 rfl; omega) rfl ?_
  refine lv_iconst (v := -1) hx hb d_Model_about_65 (by decide) ?_
  obtain ⟨rfl, rfl⟩ := Prod.mk.inj (Option.some.inj hf)
  exact sm_iret hC hr hlk hG d_Model_about_66
abbrev w_Model_object : List Cond := Cond.code y_Model_object b_Model_object 3 (some .int) :: sm_AW
abbrev rm_Model_object : Room := { frames := 1, cells := 0, slots := 0, locals := 22 }
def j_Model_object_25 (M : sm_M) (y1 : Int32) (y2 : Int32) : Option (Int32 × sm_M) :=
sm_gd (((2 : Int32) * y1) + y2) 8 (
(some (M 70 (Int32.toNatClampNeg (((2 : Int32) * y1) + y2)), M)))
def f_Model_object (M : sm_M) (a0 : Int32) (a1 : Int32) : Option (Int32 × sm_M) :=
sm_nm (sm_up M 68 0 (0 : Int32)) fun M2_1 =>
sm_b1 (f_Model_within a0 (0 : Int32) (3 : Int32)) fun r8_3 =>
(if r8_3 = 0 then
(some ((-1 : Int32), M2_1))
else
(if a1 = 0 then
j_Model_object_25 M2_1 a0 a1
else
(if a1 = (1 : Int32) then
j_Model_object_25 M2_1 a0 a1
else
(if a1 = (2 : Int32) then
sm_gd a0 4 (
(some (M2_1 71 (Int32.toNatClampNeg a0), M2_1)))
else
(if a1 = (3 : Int32) then
sm_gd a0 4 (
(some (M2_1 76 (Int32.toNatClampNeg a0), M2_1)))
else
(some ((-1 : Int32), M2_1)))))))
set_option maxHeartbeats 4000000 in
set_option maxRecDepth 100000 in
theorem jw_Model_object_25 {p : Program} {l : Launch} {e : Env} {s : State} {m : MethodId} {args : Array Value} {below : List Frame} {meth : Method} {c : Code} {v : sm_V} {o : sm_O} {r : Int32} {M' : sm_M} (hC : CallFix p m c b_Model_object 3 s args w_Model_object R_Model) (hr : meth.sig.returnType = some .int) (hlk : meth.locks = false) (hK : sm_K v s) (M : sm_M) (y1 : Int32) (y2 : Int32) {H : Heap} {locs : List Loc} {ls : Array Slot} (hG : sm_G v M o s H locs) (hl : lv_has ls 3 [(0, .ref (sm_a v 68)), (1, .int y1), (2, .int y2)]) (hf : j_Model_object_25 M y1 y2 = some (r, M')) : W p l e rm_Model_object s m args below meth c H locs 0 0 (MQ below (sm_Qi v M' o r) args s 0 0 (sm_A v)) (F0 m 25 ls []) := by
  have hx := hC.1
  have hb := hC.2.1
  unfold j_Model_object_25 at hf
  refine lv_aload_n hx hb d_Model_object_25 rfl (lv_at hl 0 rfl) ?_
  refine gf_Model_13 hC hK hG d_Model_object_26 ?_
  refine lv_iconst (v := 2) hx hb d_Model_object_29 (by decide) ?_
  refine lv_iload_n hx hb d_Model_object_30 rfl (lv_at hl 1 rfl) ?_
  refine lv_imul hx hb d_Model_object_31 ?_
  refine lv_iload_n hx hb d_Model_object_32 rfl (lv_at hl 2 rfl) ?_
  refine lv_iadd hx hb d_Model_object_33 ?_
  obtain ⟨h34_7, hf⟩ := sm_of_gd hf
  refine sm_iald hC hK hG (by decide) rfl h34_7 d_Model_object_34 ?_
  refine lv_goto hx hb d_Model_object_35 rfl ?_
  obtain ⟨rfl, rfl⟩ := Prod.mk.inj (Option.some.inj hf)
  exact sm_iret hC hr hlk hG d_Model_object_67
set_option maxHeartbeats 4000000 in
set_option maxRecDepth 100000 in
theorem c_Model_object {l : Launch} {v : sm_V} {o : sm_O} {M : sm_M} {a0 : Int32} {a1 : Int32} {r : Int32} {M' : sm_M} (hf : f_Model_object M a0 a1 = some (r, M')) : sm_Ci l y_Model_object w_Model_object rm_Model_object v [.ref (sm_a v 68), .int a0, .int a1] M o r M' := by
  refine sm_met (cc := b_Model_object) (nL := 3) (ret := some .int) (plainFor_of_name (by decide)) rfl (Nat.le_of_ble_eq_true rfl) (fun p e s m args below meth c hC hr hlk hK hG ls hl => ?_)
  have hx := hC.1
  have hb := hC.2.1
  have hl : lv_has ls 3 [(0, .ref (sm_a v 68)), (1, .int a0), (2, .int a1)] := hl
  unfold f_Model_object at hf
  refine lv_aload_n hx hb d_Model_object_0 rfl (lv_at hl 0 rfl) ?_
  refine lv_iconst (v := 0) hx hb d_Model_object_1 (by decide) ?_
  refine pf_Model_74 hC hK hG d_Model_object_2 (fun M2_1 H locs eM2_1 hG => ?_)
  have hf := sm_of eM2_1 hf
  refine lv_iload_n hx hb d_Model_object_5 rfl (lv_at hl 1 rfl) ?_
  refine lv_iconst (v := 0) hx hb d_Model_object_6 (by decide) ?_
  refine lv_iconst (v := 3) hx hb d_Model_object_7 (by decide) ?_
  obtain ⟨r8_3, hc8_2, hf⟩ := sm_of_b1 hf
  refine ca_Model_82 hC hK hG (c_Model_within hc8_2) hl.1 ⟨Nat.le_of_ble_eq_true rfl, Nat.le_of_ble_eq_true rfl⟩ ⟨Nat.zero_le _, Nat.zero_le _⟩ (Nat.le_of_ble_eq_true rfl) d_Model_object_8 ?_
  refine lv_if_ne hx hb d_Model_object_11 rfl (fun h11_5 => ?_) (fun h11_5 => ?_)
  · have hf := sm_f h11_5 hf
    refine lv_iload_n hx hb d_Model_object_16 rfl (lv_at hl 2 rfl) ?_
    refine lv_if_eq hx hb d_Model_object_17 rfl (fun h17_6 => ?_) (fun h17_6 => ?_)
    · have hf := sm_t h17_6 hf
      exact jw_Model_object_25 hC hr hlk hK M2_1 a0 a1 hG hl hf
    · have hf := sm_f h17_6 hf
      refine lv_iload_n hx hb d_Model_object_20 rfl (lv_at hl 2 rfl) ?_
      refine lv_iconst (v := 1) hx hb d_Model_object_21 (by decide) ?_
      refine lv_icmp_ne hx hb d_Model_object_22 rfl (fun h22_8 => ?_) (fun h22_8 => ?_)
      · have hf := sm_f h22_8 hf
        refine lv_iload_n hx hb d_Model_object_38 rfl (lv_at hl 2 rfl) ?_
        refine lv_iconst (v := 2) hx hb d_Model_object_39 (by decide) ?_
        refine lv_icmp_ne hx hb d_Model_object_40 rfl (fun h40_9 => ?_) (fun h40_9 => ?_)
        · have hf := sm_f h40_9 hf
          refine lv_iload_n hx hb d_Model_object_52 rfl (lv_at hl 2 rfl) ?_
          refine lv_iconst (v := 3) hx hb d_Model_object_53 (by decide) ?_
          refine lv_icmp_ne hx hb d_Model_object_54 rfl (fun h54_10 => ?_) (fun h54_10 => ?_)
          · have hf := sm_f h54_10 hf
            refine lv_iconst (v := -1) hx hb d_Model_object_66 (by decide) ?_
            obtain ⟨rfl, rfl⟩ := Prod.mk.inj (Option.some.inj hf)
            exact sm_iret hC hr hlk hG d_Model_object_67
          · have hf := sm_t h54_10 hf
            refine lv_aload_n hx hb d_Model_object_57 rfl (lv_at hl 0 rfl) ?_
            refine gf_Model_32 hC hK hG d_Model_object_58 ?_
            refine lv_iload_n hx hb d_Model_object_61 rfl (lv_at hl 1 rfl) ?_
            obtain ⟨h62_11, hf⟩ := sm_of_gd hf
            refine sm_iald hC hK hG (by decide) rfl h62_11 d_Model_object_62 ?_
            refine lv_goto hx hb d_Model_object_63 rfl ?_
            obtain ⟨rfl, rfl⟩ := Prod.mk.inj (Option.some.inj hf)
            exact sm_iret hC hr hlk hG d_Model_object_67
        · have hf := sm_t h40_9 hf
          refine lv_aload_n hx hb d_Model_object_43 rfl (lv_at hl 0 rfl) ?_
          refine gf_Model_16 hC hK hG d_Model_object_44 ?_
          refine lv_iload_n hx hb d_Model_object_47 rfl (lv_at hl 1 rfl) ?_
          obtain ⟨h48_12, hf⟩ := sm_of_gd hf
          refine sm_iald hC hK hG (by decide) rfl h48_12 d_Model_object_48 ?_
          refine lv_goto hx hb d_Model_object_49 rfl ?_
          obtain ⟨rfl, rfl⟩ := Prod.mk.inj (Option.some.inj hf)
          exact sm_iret hC hr hlk hG d_Model_object_67
      · have hf := sm_t h22_8 hf
        exact jw_Model_object_25 hC hr hlk hK M2_1 a0 a1 hG hl hf
  · have hf := sm_t h11_5 hf
    refine lv_iconst (v := -1) hx hb d_Model_object_14 (by decide) ?_
    obtain ⟨rfl, rfl⟩ := Prod.mk.inj (Option.some.inj hf)
    exact sm_iret hC hr hlk hG d_Model_object_15
