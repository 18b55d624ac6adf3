abbrev w_Mill_isBelow : List Cond := Cond.code y_Mill_isBelow b_Mill_isBelow 2 (some .boolean) :: sm_AW
abbrev rm_Mill_isBelow : Room := { frames := 0, cells := 0, slots := 0, locals := 0 }
def f_Mill_isBelow (a0 : Int32) (a1 : Int32) : Option (Int32) :=
(if a0 < 0 then
(some (0 : Int32))
else
(if a1 ≤ a0 then
(some (0 : Int32))
else
(some (1 : Int32))))
set_option maxHeartbeats 4000000 in
set_option maxRecDepth 100000 in
theorem c_Mill_isBelow {l : Launch} {v : sm_V} {o : sm_O} {M : sm_M} {a0 : Int32} {a1 : Int32} {r : Int32} (hf : f_Mill_isBelow a0 a1 = some r) : sm_Ri l y_Mill_isBelow w_Mill_isBelow rm_Mill_isBelow v [.int a0, .int a1] M o r  := by
  refine sm_met (cc := b_Mill_isBelow) (nL := 2) (ret := some .boolean) (plainFor_of_name (by decide)) rfl (Nat.le_of_ble_eq_true rfl) (fun p e s m args below meth c hC hr hlk hK hG ls hl => ?_)
  have hx := hC.1
  have hb := hC.2.1
  have hl : lv_has ls 2 [(0, .int a0), (1, .int a1)] := hl
  unfold f_Mill_isBelow at hf
  refine lv_iload_n hx hb d_Mill_isBelow_0 rfl (lv_at hl 0 rfl) ?_
  refine lv_if_lt hx hb d_Mill_isBelow_1 rfl (fun h1_1 => ?_) (fun h1_1 => ?_)
  · have hf := sm_t h1_1 hf
    refine lv_iconst (v := 0) hx hb d_Mill_isBelow_13 (by decide) ?_
    obtain rfl := Option.some.inj hf
    exact sm_zret0 hC hr rfl hlk d_Mill_isBelow_14
  · have hf := sm_f h1_1 hf
    refine lv_iload_n hx hb d_Mill_isBelow_4 rfl (lv_at hl 0 rfl) ?_
    refine lv_iload_n hx hb d_Mill_isBelow_5 rfl (lv_at hl 1 rfl) ?_
    refine lv_icmp_ge hx hb d_Mill_isBelow_6 rfl (fun h6_2 => ?_) (fun h6_2 => ?_)
    · have hf := sm_t h6_2 hf
      refine lv_iconst (v := 0) hx hb d_Mill_isBelow_13 (by decide) ?_
      obtain rfl := Option.some.inj hf
      exact sm_zret0 hC hr rfl hlk d_Mill_isBelow_14
    · have hf := sm_f h6_2 hf
      refine lv_iconst (v := 1) hx hb d_Mill_isBelow_9 (by decide) ?_
      refine lv_goto hx hb d_Mill_isBelow_10 rfl ?_
      obtain rfl := Option.some.inj hf
      exact sm_zret0 hC hr rfl hlk d_Mill_isBelow_14
abbrev w_Instr_isThreeRegisters : List Cond := Cond.code y_Instr_isThreeRegisters b_Instr_isThreeRegisters 1 (some .boolean) :: sm_AW
abbrev rm_Instr_isThreeRegisters : Room := { frames := 0, cells := 0, slots := 0, locals := 0 }
def f_Instr_isThreeRegisters (a0 : Int32) : Option (Int32) :=
(if a0 < (3 : Int32) then
(some (0 : Int32))
else
(if (10 : Int32) < a0 then
(some (0 : Int32))
else
(some (1 : Int32))))
set_option maxHeartbeats 4000000 in
set_option maxRecDepth 100000 in
theorem c_Instr_isThreeRegisters {l : Launch} {v : sm_V} {o : sm_O} {M : sm_M} {a0 : Int32} {r : Int32} (hf : f_Instr_isThreeRegisters a0 = some r) : sm_Ri l y_Instr_isThreeRegisters w_Instr_isThreeRegisters rm_Instr_isThreeRegisters v [.int a0] M o r  := by
  refine sm_met (cc := b_Instr_isThreeRegisters) (nL := 1) (ret := some .boolean) (plainFor_of_name (by decide)) rfl (Nat.le_of_ble_eq_true rfl) (fun p e s m args below meth c hC hr hlk hK hG ls hl => ?_)
  have hx := hC.1
  have hb := hC.2.1
  have hl : lv_has ls 1 [(0, .int a0)] := hl
  unfold f_Instr_isThreeRegisters at hf
  refine lv_iload_n hx hb d_Instr_isThreeRegisters_0 rfl (lv_at hl 0 rfl) ?_
  refine lv_iconst (v := 3) hx hb d_Instr_isThreeRegisters_1 (by decide) ?_
  refine lv_icmp_lt hx hb d_Instr_isThreeRegisters_2 rfl (fun h2_1 => ?_) (fun h2_1 => ?_)
  · have hf := sm_t h2_1 hf
    refine lv_iconst (v := 0) hx hb d_Instr_isThreeRegisters_15 (by decide) ?_
    obtain rfl := Option.some.inj hf
    exact sm_zret0 hC hr rfl hlk d_Instr_isThreeRegisters_16
  · have hf := sm_f h2_1 hf
    refine lv_iload_n hx hb d_Instr_isThreeRegisters_5 rfl (lv_at hl 0 rfl) ?_
    refine lv_bipush (v := 10) hx hb d_Instr_isThreeRegisters_6 (by decide) ?_
    refine lv_icmp_gt hx hb d_Instr_isThreeRegisters_8 rfl (fun h8_2 => ?_) (fun h8_2 => ?_)
    · have hf := sm_t h8_2 hf
      refine lv_iconst (v := 0) hx hb d_Instr_isThreeRegisters_15 (by decide) ?_
      obtain rfl := Option.some.inj hf
      exact sm_zret0 hC hr rfl hlk d_Instr_isThreeRegisters_16
    · have hf := sm_f h8_2 hf
      refine lv_iconst (v := 1) hx hb d_Instr_isThreeRegisters_11 (by decide) ?_
      refine lv_goto hx hb d_Instr_isThreeRegisters_12 rfl ?_
      obtain rfl := Option.some.inj hf
      exact sm_zret0 hC hr rfl hlk d_Instr_isThreeRegisters_16
abbrev w_Instr_numberAt : List Cond := Cond.code y_Instr_numberAt b_Instr_numberAt 1 (some .int) :: sm_AW
abbrev rm_Instr_numberAt : Room := { frames := 0, cells := 0, slots := 0, locals := 0 }
def f_Instr_numberAt (a0 : Int32) : Option (Int32) :=
(if a0 = (1 : Int32) then
(some (12 : Int32))
else
(if a0 = (16 : Int32) then
(some (10 : Int32))
else
(some (20 : Int32))))
set_option maxHeartbeats 4000000 in
set_option maxRecDepth 100000 in
theorem c_Instr_numberAt {l : Launch} {v : sm_V} {o : sm_O} {M : sm_M} {a0 : Int32} {r : Int32} (hf : f_Instr_numberAt a0 = some r) : sm_Ri l y_Instr_numberAt w_Instr_numberAt rm_Instr_numberAt v [.int a0] M o r  := by
  refine sm_met (cc := b_Instr_numberAt) (nL := 1) (ret := some .int) (plainFor_of_name (by decide)) rfl (Nat.le_of_ble_eq_true rfl) (fun p e s m args below meth c hC hr hlk hK hG ls hl => ?_)
  have hx := hC.1
  have hb := hC.2.1
  have hl : lv_has ls 1 [(0, .int a0)] := hl
  unfold f_Instr_numberAt at hf
  refine lv_iload_n hx hb d_Instr_numberAt_0 rfl (lv_at hl 0 rfl) ?_
  refine lv_iconst (v := 1) hx hb d_Instr_numberAt_1 (by decide) ?_
  refine lv_icmp_ne hx hb d_Instr_numberAt_2 rfl (fun h2_1 => ?_) (fun h2_1 => ?_)
  · have hf := sm_f h2_1 hf
    refine lv_iload_n hx hb d_Instr_numberAt_8 rfl (lv_at hl 0 rfl) ?_
    refine lv_bipush (v := 16) hx hb d_Instr_numberAt_9 (by decide) ?_
    refine lv_icmp_ne hx hb d_Instr_numberAt_11 rfl (fun h11_2 => ?_) (fun h11_2 => ?_)
    · have hf := sm_f h11_2 hf
      refine lv_bipush (v := 20) hx hb d_Instr_numberAt_19 (by decide) ?_
      obtain rfl := Option.some.inj hf
      exact sm_iret0 hC hr hlk d_Instr_numberAt_21
    · have hf := sm_t h11_2 hf
      refine lv_bipush (v := 10) hx hb d_Instr_numberAt_14 (by decide) ?_
      refine lv_goto hx hb d_Instr_numberAt_16 rfl ?_
      obtain rfl := Option.some.inj hf
      exact sm_iret0 hC hr hlk d_Instr_numberAt_21
  · have hf := sm_t h2_1 hf
    refine lv_bipush (v := 12) hx hb d_Instr_numberAt_5 (by decide) ?_
    obtain rfl := Option.some.inj hf
    exact sm_iret0 hC hr hlk d_Instr_numberAt_7
abbrev w_Mill_fitsSigned : List Cond := Cond.code y_Mill_fitsSigned b_Mill_fitsSigned 3 (some .boolean) :: sm_AW
abbrev rm_Mill_fitsSigned : Room := { frames := 0, cells := 0, slots := 0, locals := 0 }
def f_Mill_fitsSigned (a0 : Int32) (a1 : Int32) : Option (Int32) :=
sm_nm ((1 : Int32) <<< ((a1 - (1 : Int32)) &&& 31)) fun x5_1 =>
(if a0 < (-x5_1) then
(some (0 : Int32))
else
(if x5_1 ≤ a0 then
(some (0 : Int32))
else
(some (1 : Int32))))
set_option maxHeartbeats 4000000 in
set_option maxRecDepth 100000 in
theorem c_Mill_fitsSigned {l : Launch} {v : sm_V} {o : sm_O} {M : sm_M} {a0 : Int32} {a1 : Int32} {r : Int32} (hf : f_Mill_fitsSigned a0 a1 = some r) : sm_Ri l y_Mill_fitsSigned w_Mill_fitsSigned rm_Mill_fitsSigned v [.int a0, .int a1] M o r  := by
  refine sm_met (cc := b_Mill_fitsSigned) (nL := 3) (ret := some .boolean) (plainFor_of_name (by decide)) rfl (Nat.le_of_ble_eq_true rfl) (fun p e s m args below meth c hC hr hlk hK hG ls hl => ?_)
  have hx := hC.1
  have hb := hC.2.1
  have hl : lv_has ls 3 [(0, .int a0), (1, .int a1)] := hl
  unfold f_Mill_fitsSigned at hf
  refine lv_iconst (v := 1) hx hb d_Mill_fitsSigned_0 (by decide) ?_
  refine lv_iload_n hx hb d_Mill_fitsSigned_1 rfl (lv_at hl 1 rfl) ?_
  refine lv_iconst (v := 1) hx hb d_Mill_fitsSigned_2 (by decide) ?_
  refine lv_isub hx hb d_Mill_fitsSigned_3 ?_
  refine lv_ishl hx hb d_Mill_fitsSigned_4 ?_
  refine lv_topi (fun x5_1 ex5_1 => ?_)
  have hf := sm_of ex5_1 hf
  refine lv_istore_n hx hb d_Mill_fitsSigned_5 rfl hl (Nat.le_of_ble_eq_true rfl) rfl (fun ls hl => ?_)
  have hl : lv_has ls 3 [(2, .int x5_1), (0, .int a0), (1, .int a1)] := hl
  have hl : lv_has ls 3 [(2, .int x5_1), (0, .int a0)] := lv_sub hl [0, 1] rfl
  refine lv_iload_n hx hb d_Mill_fitsSigned_6 rfl (lv_at hl 1 rfl) ?_
  refine lv_iload_n hx hb d_Mill_fitsSigned_7 rfl (lv_at hl 0 rfl) ?_
  refine lv_ineg hx hb d_Mill_fitsSigned_8 ?_
  refine lv_icmp_lt hx hb d_Mill_fitsSigned_9 rfl (fun h9_2 => ?_) (fun h9_2 => ?_)
  · have hf := sm_t h9_2 hf
    refine lv_iconst (v := 0) hx hb d_Mill_fitsSigned_21 (by decide) ?_
    obtain rfl := Option.some.inj hf
    exact sm_zret0 hC hr rfl hlk d_Mill_fitsSigned_22
  · have hf := sm_f h9_2 hf
    refine lv_iload_n hx hb d_Mill_fitsSigned_12 rfl (lv_at hl 1 rfl) ?_
    refine lv_iload_n hx hb d_Mill_fitsSigned_13 rfl (lv_at hl 0 rfl) ?_
    refine lv_icmp_ge hx hb d_Mill_fitsSigned_14 rfl (fun h14_3 => ?_) (fun h14_3 => ?_)
    · have hf := sm_t h14_3 hf
      refine lv_iconst (v := 0) hx hb d_Mill_fitsSigned_21 (by decide) ?_
      obtain rfl := Option.some.inj hf
      exact sm_zret0 hC hr rfl hlk d_Mill_fitsSigned_22
    · have hf := sm_f h14_3 hf
      refine lv_iconst (v := 1) hx hb d_Mill_fitsSigned_17 (by decide) ?_
      refine lv_goto hx hb d_Mill_fitsSigned_18 rfl ?_
      obtain rfl := Option.some.inj hf
      exact sm_zret0 hC hr rfl hlk d_Mill_fitsSigned_22
theorem ca_Instr_18 {p : Program} {l : Launch} {e : Env} {R : Room} {s : State} {m : MethodId} {args : Array Value} {below : List Frame} {meth : Method} {c : Code} {H : Heap} {locs : List Loc} {cells slots : Nat} {Q : State → Prop} {cc : ByteArray} {nL pc : Nat} {ls : Array Slot} {rest : List Value} {w0 : Cond} {v : sm_V} {M : sm_M} {o : sm_O} {x0 : Int32} {r : Int32} (hC : CallFix p m c cc nL s args (w0 :: sm_AW) R_Instr) (hK : sm_K v s) (hG : sm_G v M o s H locs) (hM : sm_Ri l y_Instr_isThreeRegisters w_Instr_isThreeRegisters rm_Instr_isThreeRegisters v [.int x0] M o r) (hsz : ls.size = nL) (hR : rm_Instr_isThreeRegisters.frames + 1 ≤ R.frames ∧ 8 + (1 + 11) + rm_Instr_isThreeRegisters.locals ≤ R.locals) (hcs : cells + 0 ≤ R.cells ∧ slots + 0 ≤ R.slots) (hW : (rest.map fun v => v.category).sum ≤ 8) (hdg : decode cc pc = .ok (.invokestatic 18, 3))
    (kk : W p l e R s m args below meth c H locs cells slots Q (F0 m (pc + 3) ls (.int r :: rest))) : W p l e R s m args below meth c H locs cells slots Q (F0 m pc ls (.int x0 :: rest)) :=
  sm_calli0 (va_runS (As := [.int x0]) (rest := rest) hC hM (cwS 1 hC.2.2.2.2 (sm_good (sm_inS aw_300 aw_301 aw_8 aw_302)) rfl rfl rfl (by decide +kernel) hR) (sm_preS hK hG) rfl rfl hsz rfl (lv_room hW) hdg hcs) kk
theorem ca_Instr_22 {p : Program} {l : Launch} {e : Env} {R : Room} {s : State} {m : MethodId} {args : Array Value} {below : List Frame} {meth : Method} {c : Code} {H : Heap} {locs : List Loc} {cells slots : Nat} {Q : State → Prop} {cc : ByteArray} {nL pc : Nat} {ls : Array Slot} {rest : List Value} {w0 : Cond} {v : sm_V} {M : sm_M} {o : sm_O} {x0 : Int32} {r : Int32} (hC : CallFix p m c cc nL s args (w0 :: sm_AW) R_Instr) (hK : sm_K v s) (hG : sm_G v M o s H locs) (hM : sm_Ri l y_Instr_numberAt w_Instr_numberAt rm_Instr_numberAt v [.int x0] M o r) (hsz : ls.size = nL) (hR : rm_Instr_numberAt.frames + 1 ≤ R.frames ∧ 8 + (1 + 11) + rm_Instr_numberAt.locals ≤ R.locals) (hcs : cells + 0 ≤ R.cells ∧ slots + 0 ≤ R.slots) (hW : (rest.map fun v => v.category).sum ≤ 8) (hdg : decode cc pc = .ok (.invokestatic 22, 3))
    (kk : W p l e R s m args below meth c H locs cells slots Q (F0 m (pc + 3) ls (.int r :: rest))) : W p l e R s m args below meth c H locs cells slots Q (F0 m pc ls (.int x0 :: rest)) :=
  sm_calli0 (va_runS (As := [.int x0]) (rest := rest) hC hM (cwS 1 hC.2.2.2.2 (sm_good (sm_inS aw_303 aw_304 aw_8 aw_305)) rfl rfl rfl (by decide +kernel) hR) (sm_preS hK hG) rfl rfl hsz rfl (lv_room hW) hdg hcs) kk
theorem ca_Instr_26 {p : Program} {l : Launch} {e : Env} {R : Room} {s : State} {m : MethodId} {args : Array Value} {below : List Frame} {meth : Method} {c : Code} {H : Heap} {locs : List Loc} {cells slots : Nat} {Q : State → Prop} {cc : ByteArray} {nL pc : Nat} {ls : Array Slot} {rest : List Value} {w0 : Cond} {v : sm_V} {M : sm_M} {o : sm_O} {x0 : Int32} {x1 : Int32} {r : Int32} (hC : CallFix p m c cc nL s args (w0 :: sm_AW) R_Instr) (hK : sm_K v s) (hG : sm_G v M o s H locs) (hM : sm_Ri l y_Mill_fitsSigned w_Mill_fitsSigned rm_Mill_fitsSigned v [.int x0, .int x1] M o r) (hsz : ls.size = nL) (hR : rm_Mill_fitsSigned.frames + 1 ≤ R.frames ∧ 8 + (3 + 11) + rm_Mill_fitsSigned.locals ≤ R.locals) (hcs : cells + 0 ≤ R.cells ∧ slots + 0 ≤ R.slots) (hW : (rest.map fun v => v.category).sum ≤ 8) (hdg : decode cc pc = .ok (.invokestatic 26, 3))
    (kk : W p l e R s m args below meth c H locs cells slots Q (F0 m (pc + 3) ls (.int r :: rest))) : W p l e R s m args below meth c H locs cells slots Q (F0 m pc ls (.int x1 :: .int x0 :: rest)) :=
  sm_calli0 (va_runSN (As := [.int x0, .int x1]) (rest := rest) hC hM ⟨va_cnB 2 hC.2.2.2.2 (sm_good (sm_inC aw_308)) rfl rfl rfl (hK.2.1 _ nw_306) (hC.2.2.2.2 _ (List.mem_cons_of_mem _ aw_1)) (by decide +kernel) hR, hC.2.2.2.2 _ (List.mem_cons_of_mem _ aw_307), trivial⟩ (sm_preS hK hG) rfl rfl hsz rfl (lv_room hW) hdg hcs) kk
theorem ca_Instr_11 {p : Program} {l : Launch} {e : Env} {R : Room} {s : State} {m : MethodId} {args : Array Value} {below : List Frame} {meth : Method} {c : Code} {H : Heap} {locs : List Loc} {cells slots : Nat} {Q : State → Prop} {cc : ByteArray} {nL pc : Nat} {ls : Array Slot} {rest : List Value} {w0 : Cond} {v : sm_V} {M : sm_M} {o : sm_O} {x0 : Int32} {x1 : Int32} {r : Int32} (hC : CallFix p m c cc nL s args (w0 :: sm_AW) R_Instr) (hK : sm_K v s) (hG : sm_G v M o s H locs) (hM : sm_Ri l y_Mill_isBelow w_Mill_isBelow rm_Mill_isBelow v [.int x0, .int x1] M o r) (hsz : ls.size = nL) (hR : rm_Mill_isBelow.frames + 1 ≤ R.frames ∧ 8 + (2 + 11) + rm_Mill_isBelow.locals ≤ R.locals) (hcs : cells + 0 ≤ R.cells ∧ slots + 0 ≤ R.slots) (hW : (rest.map fun v => v.category).sum ≤ 8) (hdg : decode cc pc = .ok (.invokestatic 11, 3))
    (kk : W p l e R s m args below meth c H locs cells slots Q (F0 m (pc + 3) ls (.int r :: rest))) : W p l e R s m args below meth c H locs cells slots Q (F0 m pc ls (.int x1 :: .int x0 :: rest)) :=
  sm_calli0 (va_runSN (As := [.int x0, .int x1]) (rest := rest) hC hM ⟨va_cnB 2 hC.2.2.2.2 (sm_good (sm_inC aw_216)) rfl rfl rfl (hK.2.1 _ nw_296) (hC.2.2.2.2 _ (List.mem_cons_of_mem _ aw_1)) (by decide +kernel) hR, hC.2.2.2.2 _ (List.mem_cons_of_mem _ aw_215), trivial⟩ (sm_preS hK hG) rfl rfl hsz rfl (lv_room hW) hdg hcs) kk
abbrev w_Instr_canHold : List Cond := Cond.code y_Instr_canHold b_Instr_canHold 2 (some .boolean) :: sm_AW
abbrev rm_Instr_canHold : Room := { frames := 1, cells := 0, slots := 0, locals := 22 }
def f_Instr_canHold (a0 : Int32) (a1 : Int32) : Option (Int32) :=
(if a0 = 0 then
(some (1 : Int32))
else
(if a0 = (18 : Int32) then
(some (1 : Int32))
else
sm_b1 (f_Instr_isThreeRegisters a0) fun r13_4 =>
(if r13_4 = 0 then
sm_b1 (f_Instr_numberAt a0) fun r30_8 =>
sm_b1 (f_Mill_fitsSigned a1 ((32 : Int32) - r30_8)) fun r34_11 =>
sm_bo r34_11 ((some r34_11))
else
sm_b1 (f_Mill_isBelow a1 (32 : Int32)) fun r22_15 =>
sm_bo r22_15 ((some r22_15)))))
set_option maxHeartbeats 4000000 in
set_option maxRecDepth 100000 in
theorem c_Instr_canHold {l : Launch} {v : sm_V} {o : sm_O} {M : sm_M} {a0 : Int32} {a1 : Int32} {r : Int32} (hf : f_Instr_canHold a0 a1 = some r) : sm_Ri l y_Instr_canHold w_Instr_canHold rm_Instr_canHold v [.int a0, .int a1] M o r  := by
  refine sm_met (cc := b_Instr_canHold) (nL := 2) (ret := some .boolean) (plainFor_of_name (by decide)) rfl (Nat.le_of_ble_eq_true rfl) (fun p e s m args below meth c hC hr hlk hK hG ls hl => ?_)
  have hx := hC.1
  have hb := hC.2.1
  have hl : lv_has ls 2 [(0, .int a0), (1, .int a1)] := hl
  unfold f_Instr_canHold at hf
  refine lv_iload_n hx hb d_Instr_canHold_0 rfl (lv_at hl 0 rfl) ?_
  refine lv_if_eq hx hb d_Instr_canHold_1 rfl (fun h1_1 => ?_) (fun h1_1 => ?_)
  · have hf := sm_t h1_1 hf
    refine lv_iconst (v := 1) hx hb d_Instr_canHold_10 (by decide) ?_
    obtain rfl := Option.some.inj hf
    exact sm_zret0 hC hr rfl hlk d_Instr_canHold_11
  · have hf := sm_f h1_1 hf
    refine lv_iload_n hx hb d_Instr_canHold_4 rfl (lv_at hl 0 rfl) ?_
    refine lv_bipush (v := 18) hx hb d_Instr_canHold_5 (by decide) ?_
    refine lv_icmp_ne hx hb d_Instr_canHold_7 rfl (fun h7_2 => ?_) (fun h7_2 => ?_)
    · have hf := sm_f h7_2 hf
      refine lv_iload_n hx hb d_Instr_canHold_12 rfl (lv_at hl 0 rfl) ?_
      obtain ⟨r13_4, hc13_3, hf⟩ := sm_of_b1 hf
      refine ca_Instr_18 hC hK hG (c_Instr_isThreeRegisters hc13_3) hl.1 ⟨Nat.le_of_ble_eq_true rfl, Nat.le_of_ble_eq_true rfl⟩ ⟨Nat.zero_le _, Nat.zero_le _⟩ (Nat.le_of_ble_eq_true rfl) d_Instr_canHold_13 ?_
      refine lv_if_eq hx hb d_Instr_canHold_16 rfl (fun h16_6 => ?_) (fun h16_6 => ?_)
      · have hf := sm_t h16_6 hf
        refine lv_iload_n hx hb d_Instr_canHold_26 rfl (lv_at hl 1 rfl) ?_
        refine lv_bipush (v := 32) hx hb d_Instr_canHold_27 (by decide) ?_
        refine lv_iload_n hx hb d_Instr_canHold_29 rfl (lv_at hl 0 rfl) ?_
        obtain ⟨r30_8, hc30_7, hf⟩ := sm_of_b1 hf
        refine ca_Instr_22 hC hK hG (c_Instr_numberAt hc30_7) hl.1 ⟨Nat.le_of_ble_eq_true rfl, Nat.le_of_ble_eq_true rfl⟩ ⟨Nat.zero_le _, Nat.zero_le _⟩ (Nat.le_of_ble_eq_true rfl) d_Instr_canHold_30 ?_
        refine lv_isub hx hb d_Instr_canHold_33 ?_
        obtain ⟨r34_11, hc34_10, hf⟩ := sm_of_b1 hf
        refine ca_Instr_26 hC hK hG (c_Mill_fitsSigned hc34_10) hl.1 ⟨Nat.le_of_ble_eq_true rfl, Nat.le_of_ble_eq_true rfl⟩ ⟨Nat.zero_le _, Nat.zero_le _⟩ (Nat.le_of_ble_eq_true rfl) d_Instr_canHold_34 ?_
        obtain ⟨h37_13, hf⟩ := sm_of_bo hf
        obtain rfl := Option.some.inj hf
        exact sm_zret0 hC hr (sm_nz h37_13) hlk d_Instr_canHold_37
      · have hf := sm_f h16_6 hf
        refine lv_iload_n hx hb d_Instr_canHold_19 rfl (lv_at hl 1 rfl) ?_
        refine lv_bipush (v := 32) hx hb d_Instr_canHold_20 (by decide) ?_
        obtain ⟨r22_15, hc22_14, hf⟩ := sm_of_b1 hf
        refine ca_Instr_11 hC hK hG (c_Mill_isBelow hc22_14) hl.1 ⟨Nat.le_of_ble_eq_true rfl, Nat.le_of_ble_eq_true rfl⟩ ⟨Nat.zero_le _, Nat.zero_le _⟩ (Nat.le_of_ble_eq_true rfl) d_Instr_canHold_22 ?_
        obtain ⟨h25_17, hf⟩ := sm_of_bo hf
        obtain rfl := Option.some.inj hf
        exact sm_zret0 hC hr (sm_nz h25_17) hlk d_Instr_canHold_25
    · have hf := sm_t h7_2 hf
      refine lv_iconst (v := 1) hx hb d_Instr_canHold_10 (by decide) ?_
      obtain rfl := Option.some.inj hf
      exact sm_zret0 hC hr rfl hlk d_Instr_canHold_11
theorem ca_Instr_15 {p : Program} {l : Launch} {e : Env} {R : Room} {s : State} {m : MethodId} {args : Array Value} {below : List Frame} {meth : Method} {c : Code} {H : Heap} {locs : List Loc} {cells slots : Nat} {Q : State → Prop} {cc : ByteArray} {nL pc : Nat} {ls : Array Slot} {rest : List Value} {w0 : Cond} {v : sm_V} {M : sm_M} {o : sm_O} {x0 : Int32} {x1 : Int32} {r : Int32} (hC : CallFix p m c cc nL s args (w0 :: sm_AW) R_Instr) (hK : sm_K v s) (hG : sm_G v M o s H locs) (hM : sm_Ri l y_Instr_canHold w_Instr_canHold rm_Instr_canHold v [.int x0, .int x1] M o r) (hsz : ls.size = nL) (hR : rm_Instr_canHold.frames + 1 ≤ R.frames ∧ 8 + (2 + 11) + rm_Instr_canHold.locals ≤ R.locals) (hcs : cells + 0 ≤ R.cells ∧ slots + 0 ≤ R.slots) (hW : (rest.map fun v => v.category).sum ≤ 8) (hdg : decode cc pc = .ok (.invokestatic 15, 3))
    (kk : W p l e R s m args below meth c H locs cells slots Q (F0 m (pc + 3) ls (.int r :: rest))) : W p l e R s m args below meth c H locs cells slots Q (F0 m pc ls (.int x1 :: .int x0 :: rest)) :=
  sm_calli0 (va_runS (As := [.int x0, .int x1]) (rest := rest) hC hM (cwS 2 hC.2.2.2.2 (sm_good (sm_inS aw_297 aw_298 aw_8 aw_299)) rfl rfl rfl (by decide +kernel) hR) (sm_preS hK hG) rfl rfl hsz rfl (lv_room hW) hdg hcs) kk
abbrev w_Instr_canBe : List Cond := Cond.code y_Instr_canBe b_Instr_canBe 4 (some .boolean) :: sm_AW
abbrev rm_Instr_canBe : Room := { frames := 2, cells := 0, slots := 0, locals := 43 }
def f_Instr_canBe (a0 : Int32) (a1 : Int32) (a2 : Int32) (a3 : Int32) : Option (Int32) :=
sm_b1 (f_Mill_isBelow a0 (19 : Int32)) fun r3_2 =>
(if r3_2 = 0 then
(some (0 : Int32))
else
sm_b1 (f_Mill_isBelow a1 (32 : Int32)) fun r12_6 =>
(if r12_6 = 0 then
(some (0 : Int32))
else
sm_b1 (f_Mill_isBelow a2 (32 : Int32)) fun r21_10 =>
(if r21_10 = 0 then
(some (0 : Int32))
else
sm_b1 (f_Instr_canHold a0 a3) fun r29_14 =>
(if r29_14 = 0 then
(some (0 : Int32))
else
(some (1 : Int32))))))
set_option maxHeartbeats 4000000 in
set_option maxRecDepth 100000 in
theorem c_Instr_canBe {l : Launch} {v : sm_V} {o : sm_O} {M : sm_M} {a0 : Int32} {a1 : Int32} {a2 : Int32} {a3 : Int32} {r : Int32} (hf : f_Instr_canBe a0 a1 a2 a3 = some r) : sm_Ri l y_Instr_canBe w_Instr_canBe rm_Instr_canBe v [.int a0, .int a1, .int a2, .int a3] M o r  := by
  refine sm_met (cc := b_Instr_canBe) (nL := 4) (ret := some .boolean) (plainFor_of_name (by decide)) rfl (Nat.le_of_ble_eq_true rfl) (fun p e s m args below meth c hC hr hlk hK hG ls hl => ?_)
  have hx := hC.1
  have hb := hC.2.1
  have hl : lv_has ls 4 [(0, .int a0), (1, .int a1), (2, .int a2), (3, .int a3)] := hl
  unfold f_Instr_canBe at hf
  refine lv_iload_n hx hb d_Instr_canBe_0 rfl (lv_at hl 0 rfl) ?_
  refine lv_bipush (v := 19) hx hb d_Instr_canBe_1 (by decide) ?_
  obtain ⟨r3_2, hc3_1, hf⟩ := sm_of_b1 hf
  refine ca_Instr_11 hC hK hG (c_Mill_isBelow hc3_1) hl.1 ⟨Nat.le_of_ble_eq_true rfl, Nat.le_of_ble_eq_true rfl⟩ ⟨Nat.zero_le _, Nat.zero_le _⟩ (Nat.le_of_ble_eq_true rfl) d_Instr_canBe_3 ?_
  refine lv_if_eq hx hb d_Instr_canBe_6 rfl (fun h6_4 => ?_) (fun h6_4 => ?_)
  · have hf := sm_t h6_4 hf
    refine lv_iconst (v := 0) hx hb d_Instr_canBe_39 (by decide) ?_
    obtain rfl := Option.some.inj hf
    exact sm_zret0 hC hr rfl hlk d_Instr_canBe_40
  · have hf := sm_f h6_4 hf
    refine lv_iload_n hx hb d_Instr_canBe_9 rfl (lv_at hl 1 rfl) ?_
    refine lv_bipush (v := 32) hx hb d_Instr_canBe_10 (by decide) ?_
    obtain ⟨r12_6, hc12_5, hf⟩ := sm_of_b1 hf
    refine ca_Instr_11 hC hK hG (c_Mill_isBelow hc12_5) hl.1 ⟨Nat.le_of_ble_eq_true rfl, Nat.le_of_ble_eq_true rfl⟩ ⟨Nat.zero_le _, Nat.zero_le _⟩ (Nat.le_of_ble_eq_true rfl) d_Instr_canBe_12 ?_
    refine lv_if_eq hx hb d_Instr_canBe_15 rfl (fun h15_8 => ?_) (fun h15_8 => ?_)
    · have hf := sm_t h15_8 hf
      refine lv_iconst (v := 0) hx hb d_Instr_canBe_39 (by decide) ?_
      obtain rfl := Option.some.inj hf
      exact sm_zret0 hC hr rfl hlk d_Instr_canBe_40
    · have hf := sm_f h15_8 hf
      refine lv_iload_n hx hb d_Instr_canBe_18 rfl (lv_at hl 2 rfl) ?_
      refine lv_bipush (v := 32) hx hb d_Instr_canBe_19 (by decide) ?_
      obtain ⟨r21_10, hc21_9, hf⟩ := sm_of_b1 hf
      refine ca_Instr_11 hC hK hG (c_Mill_isBelow hc21_9) hl.1 ⟨Nat.le_of_ble_eq_true rfl, Nat.le_of_ble_eq_true rfl⟩ ⟨Nat.zero_le _, Nat.zero_le _⟩ (Nat.le_of_ble_eq_true rfl) d_Instr_canBe_21 ?_
      refine lv_if_eq hx hb d_Instr_canBe_24 rfl (fun h24_12 => ?_) (fun h24_12 => ?_)
      · have hf := sm_t h24_12 hf
        refine lv_iconst (v := 0) hx hb d_Instr_canBe_39 (by decide) ?_
        obtain rfl := Option.some.inj hf
        exact sm_zret0 hC hr rfl hlk d_Instr_canBe_40
      · have hf := sm_f h24_12 hf
        refine lv_iload_n hx hb d_Instr_canBe_27 rfl (lv_at hl 0 rfl) ?_
        refine lv_iload_n hx hb d_Instr_canBe_28 rfl (lv_at hl 3 rfl) ?_
        obtain ⟨r29_14, hc29_13, hf⟩ := sm_of_b1 hf
        refine ca_Instr_15 hC hK hG (c_Instr_canHold hc29_13) hl.1 ⟨Nat.le_of_ble_eq_true rfl, Nat.le_of_ble_eq_true rfl⟩ ⟨Nat.zero_le _, Nat.zero_le _⟩ (Nat.le_of_ble_eq_true rfl) d_Instr_canBe_29 ?_
        refine lv_if_eq hx hb d_Instr_canBe_32 rfl (fun h32_16 => ?_) (fun h32_16 => ?_)
        · have hf := sm_t h32_16 hf
          refine lv_iconst (v := 0) hx hb d_Instr_canBe_39 (by decide) ?_
          obtain rfl := Option.some.inj hf
          exact sm_zret0 hC hr rfl hlk d_Instr_canBe_40
        · have hf := sm_f h32_16 hf
          refine lv_iconst (v := 1) hx hb d_Instr_canBe_35 (by decide) ?_
          refine lv_goto hx hb d_Instr_canBe_36 rfl ?_
          obtain rfl := Option.some.inj hf
          exact sm_zret0 hC hr rfl hlk d_Instr_canBe_40
abbrev w_Section_isFull : List Cond := Cond.code y_Section_isFull b_Section_isFull 1 (some .boolean) :: sm_AW
abbrev rm_Section_isFull : Room := { frames := 0, cells := 0, slots := 0, locals := 0 }
def f_Section_isFull (M : sm_M) (k0 : Nat) : Option (Int32) :=
(if (M k0 1) = (Int32.ofNat (sm_ln (k0 + 1))) then
(some (1 : Int32))
else
(some (0 : Int32)))
set_option maxHeartbeats 4000000 in
set_option maxRecDepth 100000 in
theorem c_Section_isFull {l : Launch} {v : sm_V} {o : sm_O} {M : sm_M} {k0 : Nat} {r : Int32} (hk0 : sm_isS k0) (hf : f_Section_isFull M k0 = some r) : sm_Ri l y_Section_isFull w_Section_isFull rm_Section_isFull v [.ref (sm_a v k0)] M o r  := by
  refine sm_met (cc := b_Section_isFull) (nL := 1) (ret := some .boolean) (plainFor_of_name (by decide)) rfl (Nat.le_of_ble_eq_true rfl) (fun p e s m args below meth c hC hr hlk hK hG ls hl => ?_)
  have hx := hC.1
  have hb := hC.2.1
  have hl : lv_has ls 1 [(0, .ref (sm_a v k0))] := hl
  unfold f_Section_isFull at hf
  refine lv_aload_n hx hb d_Section_isFull_0 rfl (lv_at hl 0 rfl) ?_
  refine gf_Section_13 hC hK hG hk0 d_Section_isFull_1 ?_
  refine lv_aload_n hx hb d_Section_isFull_4 rfl (lv_at hl 0 rfl) ?_
  refine gf_Section_7 hC hK hG hk0 d_Section_isFull_5 ?_
  refine sm_alen hC hK hG (sm_s1 hk0).1 (sm_s1 hk0).2 rfl d_Section_isFull_8 ?_
  refine lv_icmp_ne hx hb d_Section_isFull_9 rfl (fun h9_1 => ?_) (fun h9_1 => ?_)
  · have hf := sm_f h9_1 hf
    refine lv_iconst (v := 0) hx hb d_Section_isFull_16 (by decide) ?_
    obtain rfl := Option.some.inj hf
    exact sm_zret0 hC hr rfl hlk d_Section_isFull_17
  · have hf := sm_t h9_1 hf
    refine lv_iconst (v := 1) hx hb d_Section_isFull_12 (by decide) ?_
    refine lv_goto hx hb d_Section_isFull_13 rfl ?_
    obtain rfl := Option.some.inj hf
    exact sm_zret0 hC hr rfl hlk d_Section_isFull_17
abbrev w_Instr_encoded : List Cond := Cond.code y_Instr_encoded b_Instr_encoded 6 (some .int) :: sm_AW
abbrev rm_Instr_encoded : Room := { frames := 1, cells := 0, slots := 0, locals := 20 }
def j_Instr_encoded_57 (y4 : Int32) (y2 : Int32) (y3 : Int32) (z0 : Int32) : Option (Int32) :=
(some ((y4 ||| (y2 <<< ((10 : Int32) &&& 31))) ||| (y3 <<< (z0 &&& 31))))
def f_Instr_encoded (a0 : Int32) (a1 : Int32) (a2 : Int32) (a3 : Int32) : Option (Int32) :=
(if a0 = 0 then
(some a0)
else
sm_nm (a0 ||| (a1 <<< ((5 : Int32) &&& 31))) fun x11_2 =>
(if a0 = (18 : Int32) then
(some x11_2)
else
(if a0 = (1 : Int32) then
sm_b1 (f_Instr_numberAt a0) fun r37_6 =>
(some (x11_2 ||| (a3 <<< (r37_6 &&& 31))))
else
(if a0 = (16 : Int32) then
sm_b1 (f_Instr_numberAt a0) fun r37_14 =>
(some (x11_2 ||| (a3 <<< (r37_14 &&& 31))))
else
sm_b1 (f_Instr_isThreeRegisters a0) fun r44_10 =>
(if r44_10 = 0 then
j_Instr_encoded_57 x11_2 a2 a3 (20 : Int32)
else
j_Instr_encoded_57 x11_2 a2 a3 (15 : Int32))))))
set_option maxHeartbeats 4000000 in
set_option maxRecDepth 100000 in
theorem jw_Instr_encoded_57 {p : Program} {l : Launch} {e : Env} {s : State} {m : MethodId} {args : Array Value} {below : List Frame} {meth : Method} {c : Code} {v : sm_V} {o : sm_O} {r : Int32} (hC : CallFix p m c b_Instr_encoded 6 s args w_Instr_encoded R_Instr) (hr : meth.sig.returnType = some .int) (hlk : meth.locks = false) (hK : sm_K v s) {M : sm_M} (y4 : Int32) (y2 : Int32) (y3 : Int32) (z0 : Int32) {ls : Array Slot} (hG : sm_G v M o s s.heap []) (hl : lv_has ls 6 [(4, .int y4), (2, .int y2), (3, .int y3)]) (hf : j_Instr_encoded_57 y4 y2 y3 z0 = some r) : W p l e rm_Instr_encoded s m args below meth c s.heap [] 0 0 (MQ below (sm_Qi0 r) args s 0 0 (fun _ => False)) (F0 m 57 ls [.int z0]) := by
  have hx := hC.1
  have hb := hC.2.1
  unfold j_Instr_encoded_57 at hf
  refine lv_istore hx hb d_Instr_encoded_57 hl (Nat.le_of_ble_eq_true rfl) rfl (fun ls hl => ?_)
  have hl : lv_has ls 6 [(5, .int z0), (4, .int y4), (2, .int y2), (3, .int y3)] := hl
  refine lv_iload hx hb d_Instr_encoded_59 (lv_at hl 1 rfl) ?_
  refine lv_iload_n hx hb d_Instr_encoded_61 rfl (lv_at hl 2 rfl) ?_
  refine lv_bipush (v := 10) hx hb d_Instr_encoded_62 (by decide) ?_
  refine lv_ishl hx hb d_Instr_encoded_64 ?_
  refine lv_ior hx hb d_Instr_encoded_65 ?_
  refine lv_iload_n hx hb d_Instr_encoded_66 rfl (lv_at hl 3 rfl) ?_
  refine lv_iload hx hb d_Instr_encoded_67 (lv_at hl 0 rfl) ?_
  refine lv_ishl hx hb d_Instr_encoded_69 ?_
  refine lv_ior hx hb d_Instr_encoded_70 ?_
  obtain rfl := Option.some.inj hf
  exact sm_iret0 hC hr hlk d_Instr_encoded_71
set_option maxHeartbeats 4000000 in
set_option maxRecDepth 100000 in
theorem c_Instr_encoded {l : Launch} {v : sm_V} {o : sm_O} {M : sm_M} {a0 : Int32} {a1 : Int32} {a2 : Int32} {a3 : Int32} {r : Int32} (hf : f_Instr_encoded a0 a1 a2 a3 = some r) : sm_Ri l y_Instr_encoded w_Instr_encoded rm_Instr_encoded v [.int a0, .int a1, .int a2, .int a3] M o r  := by
  refine sm_met (cc := b_Instr_encoded) (nL := 6) (ret := some .int) (plainFor_of_name (by decide)) rfl (Nat.le_of_ble_eq_true rfl) (fun p e s m args below meth c hC hr hlk hK hG ls hl => ?_)
  have hx := hC.1
  have hb := hC.2.1
  have hl : lv_has ls 6 [(0, .int a0), (1, .int a1), (2, .int a2), (3, .int a3)] := hl
  unfold f_Instr_encoded at hf
  refine lv_iload_n hx hb d_Instr_encoded_0 rfl (lv_at hl 0 rfl) ?_
  refine lv_if_ne hx hb d_Instr_encoded_1 rfl (fun h1_1 => ?_) (fun h1_1 => ?_)
  · have hf := sm_f h1_1 hf
    refine lv_iload_n hx hb d_Instr_encoded_6 rfl (lv_at hl 0 rfl) ?_
    refine lv_iload_n hx hb d_Instr_encoded_7 rfl (lv_at hl 1 rfl) ?_
    refine lv_iconst (v := 5) hx hb d_Instr_encoded_8 (by decide) ?_
    refine lv_ishl hx hb d_Instr_encoded_9 ?_
    refine lv_ior hx hb d_Instr_encoded_10 ?_
    refine lv_topi (fun x11_2 ex11_2 => ?_)
    have hf := sm_of ex11_2 hf
    refine lv_istore hx hb d_Instr_encoded_11 hl (Nat.le_of_ble_eq_true rfl) rfl (fun ls hl => ?_)
    have hl : lv_has ls 6 [(4, .int x11_2), (0, .int a0), (1, .int a1), (2, .int a2), (3, .int a3)] := hl
    have hl : lv_has ls 6 [(4, .int x11_2), (0, .int a0), (2, .int a2), (3, .int a3)] := lv_sub hl [0, 1, 3, 4] rfl
    refine lv_iload_n hx hb d_Instr_encoded_13 rfl (lv_at hl 1 rfl) ?_
    refine lv_bipush (v := 18) hx hb d_Instr_encoded_14 (by decide) ?_
    refine lv_icmp_ne hx hb d_Instr_encoded_16 rfl (fun h16_3 => ?_) (fun h16_3 => ?_)
    · have hf := sm_f h16_3 hf
      refine lv_iload_n hx hb d_Instr_encoded_22 rfl (lv_at hl 1 rfl) ?_
      refine lv_iconst (v := 1) hx hb d_Instr_encoded_23 (by decide) ?_
      refine lv_icmp_eq hx hb d_Instr_encoded_24 rfl (fun h24_4 => ?_) (fun h24_4 => ?_)
      · have hf := sm_t h24_4 hf
        refine lv_iload hx hb d_Instr_encoded_33 (lv_at hl 0 rfl) ?_
        refine lv_iload_n hx hb d_Instr_encoded_35 rfl (lv_at hl 3 rfl) ?_
        refine lv_iload_n hx hb d_Instr_encoded_36 rfl (lv_at hl 1 rfl) ?_
        obtain ⟨r37_6, hc37_5, hf⟩ := sm_of_b1 hf
        refine ca_Instr_22 hC hK hG (c_Instr_numberAt hc37_5) hl.1 ⟨Nat.le_of_ble_eq_true rfl, Nat.le_of_ble_eq_true rfl⟩ ⟨Nat.zero_le _, Nat.zero_le _⟩ (Nat.le_of_ble_eq_true rfl) d_Instr_encoded_37 ?_
        refine lv_ishl hx hb d_Instr_encoded_40 ?_
        refine lv_ior hx hb d_Instr_encoded_41 ?_
        obtain rfl := Option.some.inj hf
        exact sm_iret0 hC hr hlk d_Instr_encoded_42
      · have hf := sm_f h24_4 hf
        refine lv_iload_n hx hb d_Instr_encoded_27 rfl (lv_at hl 1 rfl) ?_
        refine lv_bipush (v := 16) hx hb d_Instr_encoded_28 (by decide) ?_
        refine lv_icmp_ne hx hb d_Instr_encoded_30 rfl (fun h30_8 => ?_) (fun h30_8 => ?_)
        · have hf := sm_f h30_8 hf
          refine lv_iload_n hx hb d_Instr_encoded_43 rfl (lv_at hl 1 rfl) ?_
          obtain ⟨r44_10, hc44_9, hf⟩ := sm_of_b1 hf
          refine ca_Instr_18 hC hK hG (c_Instr_isThreeRegisters hc44_9) hl.1 ⟨Nat.le_of_ble_eq_true rfl, Nat.le_of_ble_eq_true rfl⟩ ⟨Nat.zero_le _, Nat.zero_le _⟩ (Nat.le_of_ble_eq_true rfl) d_Instr_encoded_44 ?_
          refine lv_if_eq hx hb d_Instr_encoded_47 rfl (fun h47_12 => ?_) (fun h47_12 => ?_)
          · have hf := sm_t h47_12 hf
            refine lv_bipush (v := 20) hx hb d_Instr_encoded_55 (by decide) ?_
            exact jw_Instr_encoded_57 hC hr hlk hK x11_2 a2 a3 (20 : Int32) hG (lv_sub hl [0, 2, 3] rfl) hf
          · have hf := sm_f h47_12 hf
            refine lv_bipush (v := 15) hx hb d_Instr_encoded_50 (by decide) ?_
            refine lv_goto hx hb d_Instr_encoded_52 rfl ?_
            exact jw_Instr_encoded_57 hC hr hlk hK x11_2 a2 a3 (15 : Int32) hG (lv_sub hl [0, 2, 3] rfl) hf
        · have hf := sm_t h30_8 hf
          refine lv_iload hx hb d_Instr_encoded_33 (lv_at hl 0 rfl) ?_
          refine lv_iload_n hx hb d_Instr_encoded_35 rfl (lv_at hl 3 rfl) ?_
          refine lv_iload_n hx hb d_Instr_encoded_36 rfl (lv_at hl 1 rfl) ?_
          obtain ⟨r37_14, hc37_13, hf⟩ := sm_of_b1 hf
          refine ca_Instr_22 hC hK hG (c_Instr_numberAt hc37_13) hl.1 ⟨Nat.le_of_ble_eq_true rfl, Nat.le_of_ble_eq_true rfl⟩ ⟨Nat.zero_le _, Nat.zero_le _⟩ (Nat.le_of_ble_eq_true rfl) d_Instr_encoded_37 ?_
          refine lv_ishl hx hb d_Instr_encoded_40 ?_
          refine lv_ior hx hb d_Instr_encoded_41 ?_
          obtain rfl := Option.some.inj hf
          exact sm_iret0 hC hr hlk d_Instr_encoded_42
    · have hf := sm_t h16_3 hf
      refine lv_iload hx hb d_Instr_encoded_19 (lv_at hl 0 rfl) ?_
      obtain rfl := Option.some.inj hf
      exact sm_iret0 hC hr hlk d_Instr_encoded_21
  · have hf := sm_t h1_1 hf
    refine lv_iload_n hx hb d_Instr_encoded_4 rfl (lv_at hl 0 rfl) ?_
    obtain rfl := Option.some.inj hf
    exact sm_iret0 hC hr hlk d_Instr_encoded_5
abbrev w_Section_append : List Cond := Cond.code y_Section_append b_Section_append 2 (some .int) :: sm_AW
abbrev rm_Section_append : Room := { frames := 0, cells := 0, slots := 0, locals := 0 }
def f_Section_append (M : sm_M) (k0 : Nat) (a0 : Int32) : Option (Int32 × sm_M) :=
sm_gd (M k0 1) (sm_ln (k0 + 1)) (
sm_nm (sm_up M (k0 + 1) (Int32.toNatClampNeg (M k0 1)) a0) fun M9_2 =>
sm_nm (sm_up M9_2 k0 1 ((M9_2 k0 1) + (1 : Int32))) fun M17_3 =>
(some ((M17_3 k0 1) - (1 : Int32), M17_3)))
set_option maxHeartbeats 4000000 in
set_option maxRecDepth 100000 in
theorem c_Section_append {l : Launch} {v : sm_V} {o : sm_O} {M : sm_M} {k0 : Nat} {a0 : Int32} {r : Int32} {M' : sm_M} (hk0 : sm_isS k0) (hf : f_Section_append M k0 a0 = some (r, M')) : sm_Ci l y_Section_append w_Section_append rm_Section_append v [.ref (sm_a v k0), .int a0] M o r M' := by
  refine sm_met (cc := b_Section_append) (nL := 2) (ret := some .int) (plainFor_of_name (by decide)) rfl (Nat.le_of_ble_eq_true rfl) (fun p e s m args below meth c hC hr hlk hK hG ls hl => ?_)
  have hx := hC.1
  have hb := hC.2.1
  have hl : lv_has ls 2 [(0, .ref (sm_a v k0)), (1, .int a0)] := hl
  unfold f_Section_append at hf
  refine lv_aload_n hx hb d_Section_append_0 rfl (lv_at hl 0 rfl) ?_
  refine gf_Section_7 hC hK hG hk0 d_Section_append_1 ?_
  refine lv_aload_n hx hb d_Section_append_4 rfl (lv_at hl 0 rfl) ?_
  refine gf_Section_13 hC hK hG hk0 d_Section_append_5 ?_
  refine lv_iload_n hx hb d_Section_append_8 rfl (lv_at hl 1 rfl) ?_
  obtain ⟨h9_1, hf⟩ := sm_of_gd hf
  refine sm_iast hC hK hG (sm_s1 hk0).1 (sm_s1 hk0).2 h9_1 d_Section_append_9 (fun M9_2 H locs eM9_2 hG => ?_)
  have hf := sm_of eM9_2 hf
  refine lv_aload_n hx hb d_Section_append_10 rfl (lv_at hl 0 rfl) ?_
  refine lv_dup hx hb d_Section_append_11 rfl ?_
  refine gf_Section_13 hC hK hG hk0 d_Section_append_12 ?_
  refine lv_iconst (v := 1) hx hb d_Section_append_15 (by decide) ?_
  refine lv_iadd hx hb d_Section_append_16 ?_
  refine pf_Section_13 hC hK hG hk0 d_Section_append_17 (fun M17_3 H locs eM17_3 hG => ?_)
  have hf := sm_of eM17_3 hf
  refine lv_aload_n hx hb d_Section_append_20 rfl (lv_at hl 0 rfl) ?_
  refine gf_Section_13 hC hK hG hk0 d_Section_append_21 ?_
  refine lv_iconst (v := 1) hx hb d_Section_append_24 (by decide) ?_
  refine lv_isub hx hb d_Section_append_25 ?_
  obtain ⟨rfl, rfl⟩ := Prod.mk.inj (Option.some.inj hf)
  exact sm_iret hC hr hlk hG d_Section_append_26
abbrev w_Mill_isSection : List Cond := Cond.code y_Mill_isSection b_Mill_isSection 1 (some .boolean) :: sm_AW
abbrev rm_Mill_isSection : Room := { frames := 0, cells := 0, slots := 0, locals := 0 }
def f_Mill_isSection (a0 : Int32) : Option (Int32) :=
(if a0 = 0 then
(some (1 : Int32))
else
(if a0 = (1 : Int32) then
(some (1 : Int32))
else
(some (0 : Int32))))
set_option maxHeartbeats 4000000 in
set_option maxRecDepth 100000 in
theorem c_Mill_isSection {l : Launch} {v : sm_V} {o : sm_O} {M : sm_M} {a0 : Int32} {r : Int32} (hf : f_Mill_isSection a0 = some r) : sm_Ri l y_Mill_isSection w_Mill_isSection rm_Mill_isSection v [.int a0] M o r  := by
  refine sm_met (cc := b_Mill_isSection) (nL := 1) (ret := some .boolean) (plainFor_of_name (by decide)) rfl (Nat.le_of_ble_eq_true rfl) (fun p e s m args below meth c hC hr hlk hK hG ls hl => ?_)
  have hx := hC.1
  have hb := hC.2.1
  have hl : lv_has ls 1 [(0, .int a0)] := hl
  unfold f_Mill_isSection at hf
  refine lv_iload_n hx hb d_Mill_isSection_0 rfl (lv_at hl 0 rfl) ?_
  refine lv_if_eq hx hb d_Mill_isSection_1 rfl (fun h1_1 => ?_) (fun h1_1 => ?_)
  · have hf := sm_t h1_1 hf
    refine lv_iconst (v := 1) hx hb d_Mill_isSection_9 (by decide) ?_
    refine lv_goto hx hb d_Mill_isSection_10 rfl ?_
    obtain rfl := Option.some.inj hf
    exact sm_zret0 hC hr rfl hlk d_Mill_isSection_14
  · have hf := sm_f h1_1 hf
    refine lv_iload_n hx hb d_Mill_isSection_4 rfl (lv_at hl 0 rfl) ?_
    refine lv_iconst (v := 1) hx hb d_Mill_isSection_5 (by decide) ?_
    refine lv_icmp_ne hx hb d_Mill_isSection_6 rfl (fun h6_2 => ?_) (fun h6_2 => ?_)
    · have hf := sm_f h6_2 hf
      refine lv_iconst (v := 0) hx hb d_Mill_isSection_13 (by decide) ?_
      obtain rfl := Option.some.inj hf
      exact sm_zret0 hC hr rfl hlk d_Mill_isSection_14
    · have hf := sm_t h6_2 hf
      refine lv_iconst (v := 1) hx hb d_Mill_isSection_9 (by decide) ?_
      refine lv_goto hx hb d_Mill_isSection_10 rfl ?_
      obtain rfl := Option.some.inj hf
      exact sm_zret0 hC hr rfl hlk d_Mill_isSection_14
abbrev w_Part_sectionOf : List Cond := Cond.code y_Part_sectionOf b_Part_sectionOf 2 (some (.object "LinkMill$Section")) :: sm_AW
abbrev rm_Part_sectionOf : Room := { frames := 0, cells := 0, slots := 0, locals := 0 }
def f_Part_sectionOf (M : sm_M) (k0 : Nat) (a0 : Int32) : Option (Nat) :=
(if a0 = 0 then
(some (k0 + 1))
else
(some (k0 + 3)))
set_option maxHeartbeats 4000000 in
set_option maxRecDepth 100000 in
theorem c_Part_sectionOf {l : Launch} {v : sm_V} {o : sm_O} {M : sm_M} {k0 : Nat} {a0 : Int32} {r : Nat} (hk0 : sm_isP k0) (hf : f_Part_sectionOf M k0 a0 = some r) : sm_Rr l y_Part_sectionOf w_Part_sectionOf rm_Part_sectionOf v [.ref (sm_a v k0), .int a0] M o r  := by
  refine sm_met (cc := b_Part_sectionOf) (nL := 2) (ret := some (.object "LinkMill$Section")) (plainFor_of_name (by decide)) rfl (Nat.le_of_ble_eq_true rfl) (fun p e s m args below meth c hC hr hlk hK hG ls hl => ?_)
  have hx := hC.1
  have hb := hC.2.1
  have hl : lv_has ls 2 [(0, .ref (sm_a v k0)), (1, .int a0)] := hl
  unfold f_Part_sectionOf at hf
  refine lv_iload_n hx hb d_Part_sectionOf_0 rfl (lv_at hl 1 rfl) ?_
  refine lv_if_ne hx hb d_Part_sectionOf_1 rfl (fun h1_1 => ?_) (fun h1_1 => ?_)
  · have hf := sm_f h1_1 hf
    refine lv_aload_n hx hb d_Part_sectionOf_11 rfl (lv_at hl 0 rfl) ?_
    refine gf_Part_20 hC hK hG hk0 d_Part_sectionOf_12 ?_
    obtain rfl := Option.some.inj hf
    exact sm_aret0 hC hr (Or.inl ⟨_, rfl⟩) hlk d_Part_sectionOf_15
  · have hf := sm_t h1_1 hf
    refine lv_aload_n hx hb d_Part_sectionOf_4 rfl (lv_at hl 0 rfl) ?_
    refine gf_Part_16 hC hK hG hk0 d_Part_sectionOf_5 ?_
    refine lv_goto hx hb d_Part_sectionOf_8 rfl ?_
    obtain rfl := Option.some.inj hf
    exact sm_aret0 hC hr (Or.inl ⟨_, rfl⟩) hlk d_Part_sectionOf_15
theorem sm_secOf {M : sm_M} {k : Nat} {x : Int32} {r : Nat} (hk : sm_isP k) (h : f_Part_sectionOf M k x = some r) : sm_isS r := by
  unfold f_Part_sectionOf at h
  by_cases hx : x = 0
  · simp only [hx, if_true] at h
    cases h
    exact sm_ps1 hk
  · simp only [hx, if_false] at h
    cases h
    exact sm_ps3 hk
abbrev w_Part_addDefinition : List Cond := Cond.code y_Part_addDefinition b_Part_addDefinition 5 (some .int) :: sm_AW
abbrev rm_Part_addDefinition : Room := { frames := 0, cells := 0, slots := 0, locals := 0 }
def f_Part_addDefinition (M : sm_M) (k0 : Nat) (a0 : Int32) (a1 : Int32) (a2 : Int32) (a3 : Int32) : Option (Int32 × sm_M) :=
sm_gd (M k0 6) 8 (
sm_nm (sm_up M (k0 + 5) (Int32.toNatClampNeg (M k0 6)) a0) fun M9_2 =>
sm_gd (M9_2 k0 6) 8 (
sm_nm (sm_up M9_2 (k0 + 6) (Int32.toNatClampNeg (M9_2 k0 6)) a1) fun M19_4 =>
sm_gd (M19_4 k0 6) 8 (
sm_nm (sm_up M19_4 (k0 + 7) (Int32.toNatClampNeg (M19_4 k0 6)) a2) fun M29_6 =>
sm_gd (M29_6 k0 6) 8 (
sm_nm (sm_up M29_6 (k0 + 8) (Int32.toNatClampNeg (M29_6 k0 6)) (vp_nar .boolean a3)) fun M40_8 =>
sm_nm (sm_up M40_8 k0 6 ((M40_8 k0 6) + (1 : Int32))) fun M48_9 =>
(some (M48_9 k0 6, M48_9))))))
set_option maxHeartbeats 4000000 in
set_option maxRecDepth 100000 in
theorem c_Part_addDefinition {l : Launch} {v : sm_V} {o : sm_O} {M : sm_M} {k0 : Nat} {a0 : Int32} {a1 : Int32} {a2 : Int32} {a3 : Int32} {r : Int32} {M' : sm_M} (hk0 : sm_isP k0) (hf : f_Part_addDefinition M k0 a0 a1 a2 a3 = some (r, M')) : sm_Ci l y_Part_addDefinition w_Part_addDefinition rm_Part_addDefinition v [.ref (sm_a v k0), .int a0, .int a1, .int a2, .int a3] M o r M' := by
  refine sm_met (cc := b_Part_addDefinition) (nL := 5) (ret := some .int) (plainFor_of_name (by decide)) rfl (Nat.le_of_ble_eq_true rfl) (fun p e s m args below meth c hC hr hlk hK hG ls hl => ?_)
  have hx := hC.1
  have hb := hC.2.1
  have hl : lv_has ls 5 [(0, .ref (sm_a v k0)), (1, .int a0), (2, .int a1), (3, .int a2), (4, .int a3)] := hl
  unfold f_Part_addDefinition at hf
  refine lv_aload_n hx hb d_Part_addDefinition_0 rfl (lv_at hl 0 rfl) ?_
  refine gf_Part_23 hC hK hG hk0 d_Part_addDefinition_1 ?_
  refine lv_aload_n hx hb d_Part_addDefinition_4 rfl (lv_at hl 0 rfl) ?_
  refine gf_Part_56 hC hK hG hk0 d_Part_addDefinition_5 ?_
  refine lv_iload_n hx hb d_Part_addDefinition_8 rfl (lv_at hl 1 rfl) ?_
  obtain ⟨h9_1, hf⟩ := sm_of_gd hf
  refine sm_iast hC hK hG (sm_p5 hk0).1 (sm_p5 hk0).2 h9_1 d_Part_addDefinition_9 (fun M9_2 H locs eM9_2 hG => ?_)
  have hf := sm_of eM9_2 hf
  refine lv_aload_n hx hb d_Part_addDefinition_10 rfl (lv_at hl 0 rfl) ?_
  refine gf_Part_27 hC hK hG hk0 d_Part_addDefinition_11 ?_
  refine lv_aload_n hx hb d_Part_addDefinition_14 rfl (lv_at hl 0 rfl) ?_
  refine gf_Part_56 hC hK hG hk0 d_Part_addDefinition_15 ?_
  refine lv_iload_n hx hb d_Part_addDefinition_18 rfl (lv_at hl 2 rfl) ?_
  obtain ⟨h19_3, hf⟩ := sm_of_gd hf
  refine sm_iast hC hK hG (sm_p6 hk0).1 (sm_p6 hk0).2 h19_3 d_Part_addDefinition_19 (fun M19_4 H locs eM19_4 hG => ?_)
  have hf := sm_of eM19_4 hf
  refine lv_aload_n hx hb d_Part_addDefinition_20 rfl (lv_at hl 0 rfl) ?_
  refine gf_Part_30 hC hK hG hk0 d_Part_addDefinition_21 ?_
  refine lv_aload_n hx hb d_Part_addDefinition_24 rfl (lv_at hl 0 rfl) ?_
  refine gf_Part_56 hC hK hG hk0 d_Part_addDefinition_25 ?_
  refine lv_iload_n hx hb d_Part_addDefinition_28 rfl (lv_at hl 3 rfl) ?_
  obtain ⟨h29_5, hf⟩ := sm_of_gd hf
  refine sm_iast hC hK hG (sm_p7 hk0).1 (sm_p7 hk0).2 h29_5 d_Part_addDefinition_29 (fun M29_6 H locs eM29_6 hG => ?_)
  have hf := sm_of eM29_6 hf
  refine lv_aload_n hx hb d_Part_addDefinition_30 rfl (lv_at hl 0 rfl) ?_
  refine gf_Part_33 hC hK hG hk0 d_Part_addDefinition_31 ?_
  refine lv_aload_n hx hb d_Part_addDefinition_34 rfl (lv_at hl 0 rfl) ?_
  refine gf_Part_56 hC hK hG hk0 d_Part_addDefinition_35 ?_
  refine lv_iload hx hb d_Part_addDefinition_38 (lv_at hl 4 rfl) ?_
  obtain ⟨h40_7, hf⟩ := sm_of_gd hf
  refine sm_zast hC hK hG (sm_p8 hk0).1 (sm_p8 hk0).2 h40_7 d_Part_addDefinition_40 (fun M40_8 H locs eM40_8 hG => ?_)
  have hf := sm_of eM40_8 hf
  refine lv_aload_n hx hb d_Part_addDefinition_41 rfl (lv_at hl 0 rfl) ?_
  refine lv_dup hx hb d_Part_addDefinition_42 rfl ?_
  refine gf_Part_56 hC hK hG hk0 d_Part_addDefinition_43 ?_
  refine lv_iconst (v := 1) hx hb d_Part_addDefinition_46 (by decide) ?_
  refine lv_iadd hx hb d_Part_addDefinition_47 ?_
  refine pf_Part_56 hC hK hG hk0 d_Part_addDefinition_48 (fun M48_9 H locs eM48_9 hG => ?_)
  have hf := sm_of eM48_9 hf
  refine lv_aload_n hx hb d_Part_addDefinition_51 rfl (lv_at hl 0 rfl) ?_
  refine gf_Part_56 hC hK hG hk0 d_Part_addDefinition_52 ?_
  obtain ⟨rfl, rfl⟩ := Prod.mk.inj (Option.some.inj hf)
  exact sm_iret hC hr hlk hG d_Part_addDefinition_55
abbrev w_Part_addFix : List Cond := Cond.code y_Part_addFix b_Part_addFix 6 (some .int) :: sm_AW
abbrev rm_Part_addFix : Room := { frames := 0, cells := 0, slots := 0, locals := 0 }
def f_Part_addFix (M : sm_M) (k0 : Nat) (a0 : Int32) (a1 : Int32) (a2 : Int32) (a3 : Int32) (a4 : Int32) : Option (Int32 × sm_M) :=
sm_gd (M k0 12) 16 (
sm_nm (sm_up M (k0 + 9) (Int32.toNatClampNeg (M k0 12)) a0) fun M9_2 =>
sm_gd (M9_2 k0 12) 16 (
sm_nm (sm_up M9_2 (k0 + 10) (Int32.toNatClampNeg (M9_2 k0 12)) a1) fun M19_4 =>
sm_gd (M19_4 k0 12) 16 (
sm_nm (sm_up M19_4 (k0 + 11) (Int32.toNatClampNeg (M19_4 k0 12)) a2) fun M29_6 =>
sm_gd (M29_6 k0 12) 16 (
sm_nm (sm_up M29_6 (k0 + 12) (Int32.toNatClampNeg (M29_6 k0 12)) a3) fun M40_8 =>
sm_gd (M40_8 k0 12) 16 (
sm_nm (sm_up M40_8 (k0 + 13) (Int32.toNatClampNeg (M40_8 k0 12)) a4) fun M51_10 =>
sm_nm (sm_up M51_10 k0 12 ((M51_10 k0 12) + (1 : Int32))) fun M59_11 =>
(some (M59_11 k0 12, M59_11)))))))
set_option maxHeartbeats 4000000 in
set_option maxRecDepth 100000 in
theorem c_Part_addFix {l : Launch} {v : sm_V} {o : sm_O} {M : sm_M} {k0 : Nat} {a0 : Int32} {a1 : Int32} {a2 : Int32} {a3 : Int32} {a4 : Int32} {r : Int32} {M' : sm_M} (hk0 : sm_isP k0) (hf : f_Part_addFix M k0 a0 a1 a2 a3 a4 = some (r, M')) : sm_Ci l y_Part_addFix w_Part_addFix rm_Part_addFix v [.ref (sm_a v k0), .int a0, .int a1, .int a2, .int a3, .int a4] M o r M' := by
  refine sm_met (cc := b_Part_addFix) (nL := 6) (ret := some .int) (plainFor_of_name (by decide)) rfl (Nat.le_of_ble_eq_true rfl) (fun p e s m args below meth c hC hr hlk hK hG ls hl => ?_)
  have hx := hC.1
  have hb := hC.2.1
  have hl : lv_has ls 6 [(0, .ref (sm_a v k0)), (1, .int a0), (2, .int a1), (3, .int a2), (4, .int a3), (5, .int a4)] := hl
  unfold f_Part_addFix at hf
  refine lv_aload_n hx hb d_Part_addFix_0 rfl (lv_at hl 0 rfl) ?_
  refine gf_Part_37 hC hK hG hk0 d_Part_addFix_1 ?_
  refine lv_aload_n hx hb d_Part_addFix_4 rfl (lv_at hl 0 rfl) ?_
  refine gf_Part_59 hC hK hG hk0 d_Part_addFix_5 ?_
  refine lv_iload_n hx hb d_Part_addFix_8 rfl (lv_at hl 1 rfl) ?_
  obtain ⟨h9_1, hf⟩ := sm_of_gd hf
  refine sm_iast hC hK hG (sm_p9 hk0).1 (sm_p9 hk0).2 h9_1 d_Part_addFix_9 (fun M9_2 H locs eM9_2 hG => ?_)
  have hf := sm_of eM9_2 hf
  refine lv_aload_n hx hb d_Part_addFix_10 rfl (lv_at hl 0 rfl) ?_
  refine gf_Part_40 hC hK hG hk0 d_Part_addFix_11 ?_
  refine lv_aload_n hx hb d_Part_addFix_14 rfl (lv_at hl 0 rfl) ?_
  refine gf_Part_59 hC hK hG hk0 d_Part_addFix_15 ?_
  refine lv_iload_n hx hb d_Part_addFix_18 rfl (lv_at hl 2 rfl) ?_
  obtain ⟨h19_3, hf⟩ := sm_of_gd hf
  refine sm_iast hC hK hG (sm_p10 hk0).1 (sm_p10 hk0).2 h19_3 d_Part_addFix_19 (fun M19_4 H locs eM19_4 hG => ?_)
  have hf := sm_of eM19_4 hf
  refine lv_aload_n hx hb d_Part_addFix_20 rfl (lv_at hl 0 rfl) ?_
  refine gf_Part_43 hC hK hG hk0 d_Part_addFix_21 ?_
  refine lv_aload_n hx hb d_Part_addFix_24 rfl (lv_at hl 0 rfl) ?_
  refine gf_Part_59 hC hK hG hk0 d_Part_addFix_25 ?_
  refine lv_iload_n hx hb d_Part_addFix_28 rfl (lv_at hl 3 rfl) ?_
  obtain ⟨h29_5, hf⟩ := sm_of_gd hf
  refine sm_iast hC hK hG (sm_p11 hk0).1 (sm_p11 hk0).2 h29_5 d_Part_addFix_29 (fun M29_6 H locs eM29_6 hG => ?_)
  have hf := sm_of eM29_6 hf
  refine lv_aload_n hx hb d_Part_addFix_30 rfl (lv_at hl 0 rfl) ?_
  refine gf_Part_46 hC hK hG hk0 d_Part_addFix_31 ?_
  refine lv_aload_n hx hb d_Part_addFix_34 rfl (lv_at hl 0 rfl) ?_
  refine gf_Part_59 hC hK hG hk0 d_Part_addFix_35 ?_
  refine lv_iload hx hb d_Part_addFix_38 (lv_at hl 4 rfl) ?_
  obtain ⟨h40_7, hf⟩ := sm_of_gd hf
  refine sm_iast hC hK hG (sm_p12 hk0).1 (sm_p12 hk0).2 h40_7 d_Part_addFix_40 (fun M40_8 H locs eM40_8 hG => ?_)
  have hf := sm_of eM40_8 hf
  refine lv_aload_n hx hb d_Part_addFix_41 rfl (lv_at hl 0 rfl) ?_
  refine gf_Part_49 hC hK hG hk0 d_Part_addFix_42 ?_
  refine lv_aload_n hx hb d_Part_addFix_45 rfl (lv_at hl 0 rfl) ?_
  refine gf_Part_59 hC hK hG hk0 d_Part_addFix_46 ?_
  refine lv_iload hx hb d_Part_addFix_49 (lv_at hl 5 rfl) ?_
  obtain ⟨h51_9, hf⟩ := sm_of_gd hf
  refine sm_iast hC hK hG (sm_p13 hk0).1 (sm_p13 hk0).2 h51_9 d_Part_addFix_51 (fun M51_10 H locs eM51_10 hG => ?_)
  have hf := sm_of eM51_10 hf
  refine lv_aload_n hx hb d_Part_addFix_52 rfl (lv_at hl 0 rfl) ?_
  refine lv_dup hx hb d_Part_addFix_53 rfl ?_
  refine gf_Part_59 hC hK hG hk0 d_Part_addFix_54 ?_
  refine lv_iconst (v := 1) hx hb d_Part_addFix_57 (by decide) ?_
  refine lv_iadd hx hb d_Part_addFix_58 ?_
  refine pf_Part_59 hC hK hG hk0 d_Part_addFix_59 (fun M59_11 H locs eM59_11 hG => ?_)
  have hf := sm_of eM59_11 hf
  refine lv_aload_n hx hb d_Part_addFix_62 rfl (lv_at hl 0 rfl) ?_
  refine gf_Part_59 hC hK hG hk0 d_Part_addFix_63 ?_
  obtain ⟨rfl, rfl⟩ := Prod.mk.inj (Option.some.inj hf)
  exact sm_iret hC hr hlk hG d_Part_addFix_66
abbrev w_Part_empty : List Cond := Cond.code y_Part_empty b_Part_empty 1 (none) :: sm_AW
abbrev rm_Part_empty : Room := { frames := 0, cells := 0, slots := 0, locals := 0 }
def f_Part_empty (M : sm_M) (k0 : Nat) : Option (sm_M) :=
sm_nm (sm_up M (k0 + 1) 1 (0 : Int32)) fun M5_1 =>
sm_nm (sm_up M5_1 (k0 + 3) 1 (0 : Int32)) fun M13_2 =>
sm_nm (sm_up M13_2 k0 6 (0 : Int32)) fun M18_3 =>
sm_nm (sm_up M18_3 k0 12 (0 : Int32)) fun M23_4 =>
(some M23_4)
set_option maxHeartbeats 4000000 in
set_option maxRecDepth 100000 in
theorem c_Part_empty {l : Launch} {v : sm_V} {o : sm_O} {M : sm_M} {k0 : Nat} {M' : sm_M} (hk0 : sm_isP k0) (hf : f_Part_empty M k0 = some M') : sm_Cv l y_Part_empty w_Part_empty rm_Part_empty v [.ref (sm_a v k0)] M o M' := by
  refine sm_met (cc := b_Part_empty) (nL := 1) (ret := none) (plainFor_of_name (by decide)) rfl (Nat.le_of_ble_eq_true rfl) (fun p e s m args below meth c hC hr hlk hK hG ls hl => ?_)
  have hx := hC.1
  have hb := hC.2.1
  have hl : lv_has ls 1 [(0, .ref (sm_a v k0))] := hl
  unfold f_Part_empty at hf
  refine lv_aload_n hx hb d_Part_empty_0 rfl (lv_at hl 0 rfl) ?_
  refine gf_Part_16 hC hK hG hk0 d_Part_empty_1 ?_
  refine lv_iconst (v := 0) hx hb d_Part_empty_4 (by decide) ?_
  refine pf_Part_52 hC hK hG (sm_ps1 hk0) d_Part_empty_5 (fun M5_1 H locs eM5_1 hG => ?_)
  have hf := sm_of eM5_1 hf
  refine lv_aload_n hx hb d_Part_empty_8 rfl (lv_at hl 0 rfl) ?_
  refine gf_Part_20 hC hK hG hk0 d_Part_empty_9 ?_
  refine lv_iconst (v := 0) hx hb d_Part_empty_12 (by decide) ?_
  refine pf_Part_52 hC hK hG (sm_ps3 hk0) d_Part_empty_13 (fun M13_2 H locs eM13_2 hG => ?_)
  have hf := sm_of eM13_2 hf
  refine lv_aload_n hx hb d_Part_empty_16 rfl (lv_at hl 0 rfl) ?_
  refine lv_iconst (v := 0) hx hb d_Part_empty_17 (by decide) ?_
  refine pf_Part_56 hC hK hG hk0 d_Part_empty_18 (fun M18_3 H locs eM18_3 hG => ?_)
  have hf := sm_of eM18_3 hf
  refine lv_aload_n hx hb d_Part_empty_21 rfl (lv_at hl 0 rfl) ?_
  refine lv_iconst (v := 0) hx hb d_Part_empty_22 (by decide) ?_
  refine pf_Part_59 hC hK hG hk0 d_Part_empty_23 (fun M23_4 H locs eM23_4 hG => ?_)
  have hf := sm_of eM23_4 hf
  obtain rfl := Option.some.inj hf
  exact sm_vret hC hr hlk hG d_Part_empty_26
abbrev w_Part_globalDefinitionOf : List Cond := Cond.code y_Part_globalDefinitionOf b_Part_globalDefinitionOf 3 (some .int) :: sm_AW
abbrev rm_Part_globalDefinitionOf : Room := { frames := 0, cells := 0, slots := 0, locals := 0 }
def g_Part_globalDefinitionOf_2 (k0 : Nat) (M : sm_M) (w0 : Nat) (w1 : Int32) (rec2 : Int32 → Option (Int32)) (w2 : Int32) : Option (Int32) :=
(if (M w0 6) ≤ w2 then
(some (-1 : Int32))
else
sm_gd w2 8 (
(if (M (w0 + 5) (Int32.toNatClampNeg w2)) = w1 then
sm_gd w2 8 (
(if (M (w0 + 8) (Int32.toNatClampNeg w2)) = 0 then
rec2 (w2 + (1 : Int32))
else
(some w2)))
else
rec2 (w2 + (1 : Int32)))))
def f_Part_globalDefinitionOf (M : sm_M) (k0 : Nat) (a0 : Int32) : Option (Int32) :=
sm_lp1 (g_Part_globalDefinitionOf_2 k0 M k0 a0) 1100 (0 : Int32)
set_option maxHeartbeats 4000000 in
set_option maxRecDepth 100000 in
theorem lw_Part_globalDefinitionOf_2 {p : Program} {l : Launch} {e : Env} {s : State} {m : MethodId} {args : Array Value} {below : List Frame} {meth : Method} {c : Code} {v : sm_V} {o : sm_O} {r : Int32} (hC : CallFix p m c b_Part_globalDefinitionOf 3 s args w_Part_globalDefinitionOf R_Part) (hr : meth.sig.returnType = some .int) (hlk : meth.locks = false) (hK : sm_K v s) (k0 : Nat) (M : sm_M) (w0 : Nat) (w1 : Int32) (hG : sm_G v M o s s.heap []) (hk0 : sm_isP k0) (hw0 : sm_isP w0) :
    ∀ (n : Nat) (w2 : Int32) (ls : Array Slot), lv_has ls 3 [(2, .int w2), (0, .ref (sm_a v w0)), (1, .int w1)] → sm_lp1 (g_Part_globalDefinitionOf_2 k0 M w0 w1) n w2 = some r → W p l e rm_Part_globalDefinitionOf s m args below meth c s.heap [] 0 0 (MQ below (sm_Qi0 r) args s 0 0 (fun _ => False)) (F0 m 2 ls []) := by
  have hx := hC.1
  have hb := hC.2.1
  intro n
  induction n with
  | zero =>
    intro w2 ls hl hf
    cases hf
  | succ n ih =>
    intro w2 ls hl hf
    have hf : g_Part_globalDefinitionOf_2 k0 M w0 w1 (sm_lp1 (g_Part_globalDefinitionOf_2 k0 M w0 w1) n) w2 = some r := hf
    unfold g_Part_globalDefinitionOf_2 at hf
    refine lv_iload_n hx hb d_Part_globalDefinitionOf_2 rfl (lv_at hl 0 rfl) ?_
    refine lv_aload_n hx hb d_Part_globalDefinitionOf_3 rfl (lv_at hl 1 rfl) ?_
    refine gf_Part_56 hC hK hG hw0 d_Part_globalDefinitionOf_4 ?_
    refine lv_icmp_ge hx hb d_Part_globalDefinitionOf_7 rfl (fun h7_1 => ?_) (fun h7_1 => ?_)
    · have hf := sm_t h7_1 hf
      refine lv_iconst (v := -1) hx hb d_Part_globalDefinitionOf_37 (by decide) ?_
      obtain rfl := Option.some.inj hf
      exact sm_iret0 hC hr hlk d_Part_globalDefinitionOf_38
    · have hf := sm_f h7_1 hf
      refine lv_aload_n hx hb d_Part_globalDefinitionOf_10 rfl (lv_at hl 1 rfl) ?_
      refine gf_Part_23 hC hK hG hw0 d_Part_globalDefinitionOf_11 ?_
      refine lv_iload_n hx hb d_Part_globalDefinitionOf_14 rfl (lv_at hl 0 rfl) ?_
      obtain ⟨h15_2, hf⟩ := sm_of_gd hf
      refine sm_iald hC hK hG (sm_p5 hw0).1 (sm_p5 hw0).2 h15_2 d_Part_globalDefinitionOf_15 ?_
      refine lv_iload_n hx hb d_Part_globalDefinitionOf_16 rfl (lv_at hl 2 rfl) ?_
      refine lv_icmp_ne hx hb d_Part_globalDefinitionOf_17 rfl (fun h17_3 => ?_) (fun h17_3 => ?_)
      · have hf := sm_f h17_3 hf
        refine lv_iinc (v := w2 + (1 : Int32)) (k := 0) hx hb d_Part_globalDefinitionOf_31 hl rfl rfl (Nat.le_of_ble_eq_true rfl) rfl (fun ls hl => ?_)
        have hl : lv_has ls 3 [(2, .int (w2 + (1 : Int32))), (0, .ref (sm_a v w0)), (1, .int w1)] := hl
        refine lv_goto hx hb d_Part_globalDefinitionOf_34 rfl ?_
        exact ih _ ls hl hf
      · have hf := sm_t h17_3 hf
        refine lv_aload_n hx hb d_Part_globalDefinitionOf_20 rfl (lv_at hl 1 rfl) ?_
        refine gf_Part_33 hC hK hG hw0 d_Part_globalDefinitionOf_21 ?_
        refine lv_iload_n hx hb d_Part_globalDefinitionOf_24 rfl (lv_at hl 0 rfl) ?_
        obtain ⟨h25_4, hf⟩ := sm_of_gd hf
        refine sm_zald hC hK hG (sm_p8 hw0).1 (sm_p8 hw0).2 h25_4 d_Part_globalDefinitionOf_25 ?_
        refine lv_if_eq hx hb d_Part_globalDefinitionOf_26 rfl (fun h26_5 => ?_) (fun h26_5 => ?_)
        · have hf := sm_t h26_5 hf
          refine lv_iinc (v := w2 + (1 : Int32)) (k := 0) hx hb d_Part_globalDefinitionOf_31 hl rfl rfl (Nat.le_of_ble_eq_true rfl) rfl (fun ls hl => ?_)
          have hl : lv_has ls 3 [(2, .int (w2 + (1 : Int32))), (0, .ref (sm_a v w0)), (1, .int w1)] := hl
          refine lv_goto hx hb d_Part_globalDefinitionOf_34 rfl ?_
          exact ih _ ls hl hf
        · have hf := sm_f h26_5 hf
          refine lv_iload_n hx hb d_Part_globalDefinitionOf_29 rfl (lv_at hl 0 rfl) ?_
          obtain rfl := Option.some.inj hf
          exact sm_iret0 hC hr hlk d_Part_globalDefinitionOf_30
set_option maxHeartbeats 4000000 in
set_option maxRecDepth 100000 in
theorem c_Part_globalDefinitionOf {l : Launch} {v : sm_V} {o : sm_O} {M : sm_M} {k0 : Nat} {a0 : Int32} {r : Int32} (hk0 : sm_isP k0) (hf : f_Part_globalDefinitionOf M k0 a0 = some r) : sm_Ri l y_Part_globalDefinitionOf w_Part_globalDefinitionOf rm_Part_globalDefinitionOf v [.ref (sm_a v k0), .int a0] M o r  := by
  refine sm_met (cc := b_Part_globalDefinitionOf) (nL := 3) (ret := some .int) (plainFor_of_name (by decide)) rfl (Nat.le_of_ble_eq_true rfl) (fun p e s m args below meth c hC hr hlk hK hG ls hl => ?_)
  have hx := hC.1
  have hb := hC.2.1
  have hl : lv_has ls 3 [(0, .ref (sm_a v k0)), (1, .int a0)] := hl
  unfold f_Part_globalDefinitionOf at hf
  refine lv_iconst (v := 0) hx hb d_Part_globalDefinitionOf_0 (by decide) ?_
  refine lv_istore_n hx hb d_Part_globalDefinitionOf_1 rfl hl (Nat.le_of_ble_eq_true rfl) rfl (fun ls hl => ?_)
  have hl : lv_has ls 3 [(2, .int (0 : Int32)), (0, .ref (sm_a v k0)), (1, .int a0)] := hl
  exact lw_Part_globalDefinitionOf_2 hC hr hlk hK k0 M k0 a0 hG hk0 hk0 1100 _ ls hl hf
abbrev w_Part_timesDefined : List Cond := Cond.code y_Part_timesDefined b_Part_timesDefined 4 (some .int) :: sm_AW
abbrev rm_Part_timesDefined : Room := { frames := 0, cells := 0, slots := 0, locals := 0 }
def g_Part_timesDefined_4 (k0 : Nat) (M : sm_M) (w0 : Nat) (w1 : Int32) (rec4 : Int32 → Int32 → Option (Int32)) (w3 : Int32) (w2 : Int32) : Option (Int32) :=
(if (M w0 6) ≤ w3 then
(some w2)
else
sm_gd w3 8 (
(if (M (w0 + 5) (Int32.toNatClampNeg w3)) = w1 then
rec4 (w3 + (1 : Int32)) (w2 + (1 : Int32))
else
rec4 (w3 + (1 : Int32)) w2)))
def f_Part_timesDefined (M : sm_M) (k0 : Nat) (a0 : Int32) : Option (Int32) :=
sm_lp2 (g_Part_timesDefined_4 k0 M k0 a0) 1100 (0 : Int32) (0 : Int32)
set_option maxHeartbeats 4000000 in
set_option maxRecDepth 100000 in
theorem lw_Part_timesDefined_4 {p : Program} {l : Launch} {e : Env} {s : State} {m : MethodId} {args : Array Value} {below : List Frame} {meth : Method} {c : Code} {v : sm_V} {o : sm_O} {r : Int32} (hC : CallFix p m c b_Part_timesDefined 4 s args w_Part_timesDefined R_Part) (hr : meth.sig.returnType = some .int) (hlk : meth.locks = false) (hK : sm_K v s) (k0 : Nat) (M : sm_M) (w0 : Nat) (w1 : Int32) (hG : sm_G v M o s s.heap []) (hk0 : sm_isP k0) (hw0 : sm_isP w0) :
    ∀ (n : Nat) (w3 : Int32) (w2 : Int32) (ls : Array Slot), lv_has ls 4 [(3, .int w3), (2, .int w2), (0, .ref (sm_a v w0)), (1, .int w1)] → sm_lp2 (g_Part_timesDefined_4 k0 M w0 w1) n w3 w2 = some r → W p l e rm_Part_timesDefined s m args below meth c s.heap [] 0 0 (MQ below (sm_Qi0 r) args s 0 0 (fun _ => False)) (F0 m 4 ls []) := by
  have hx := hC.1
  have hb := hC.2.1
  intro n
  induction n with
  | zero =>
    intro w3 w2 ls hl hf
    cases hf
  | succ n ih =>
    intro w3 w2 ls hl hf
    have hf : g_Part_timesDefined_4 k0 M w0 w1 (sm_lp2 (g_Part_timesDefined_4 k0 M w0 w1) n) w3 w2 = some r := hf
    unfold g_Part_timesDefined_4 at hf
    refine lv_iload_n hx hb d_Part_timesDefined_4 rfl (lv_at hl 0 rfl) ?_
    refine lv_aload_n hx hb d_Part_timesDefined_5 rfl (lv_at hl 2 rfl) ?_
    refine gf_Part_56 hC hK hG hw0 d_Part_timesDefined_6 ?_
    refine lv_icmp_ge hx hb d_Part_timesDefined_9 rfl (fun h9_1 => ?_) (fun h9_1 => ?_)
    · have hf := sm_t h9_1 hf
      refine lv_iload_n hx hb d_Part_timesDefined_31 rfl (lv_at hl 1 rfl) ?_
      obtain rfl := Option.some.inj hf
      exact sm_iret0 hC hr hlk d_Part_timesDefined_32
    · have hf := sm_f h9_1 hf
      refine lv_aload_n hx hb d_Part_timesDefined_12 rfl (lv_at hl 2 rfl) ?_
      refine gf_Part_23 hC hK hG hw0 d_Part_timesDefined_13 ?_
      refine lv_iload_n hx hb d_Part_timesDefined_16 rfl (lv_at hl 0 rfl) ?_
      obtain ⟨h17_2, hf⟩ := sm_of_gd hf
      refine sm_iald hC hK hG (sm_p5 hw0).1 (sm_p5 hw0).2 h17_2 d_Part_timesDefined_17 ?_
      refine lv_iload_n hx hb d_Part_timesDefined_18 rfl (lv_at hl 3 rfl) ?_
      refine lv_icmp_ne hx hb d_Part_timesDefined_19 rfl (fun h19_3 => ?_) (fun h19_3 => ?_)
      · have hf := sm_f h19_3 hf
        refine lv_iinc (v := w3 + (1 : Int32)) (k := 0) hx hb d_Part_timesDefined_25 hl rfl rfl (Nat.le_of_ble_eq_true rfl) rfl (fun ls hl => ?_)
        have hl : lv_has ls 4 [(3, .int (w3 + (1 : Int32))), (2, .int w2), (0, .ref (sm_a v w0)), (1, .int w1)] := hl
        refine lv_goto hx hb d_Part_timesDefined_28 rfl ?_
        exact ih _ _ ls hl hf
      · have hf := sm_t h19_3 hf
        refine lv_iinc (v := w2 + (1 : Int32)) (k := 1) hx hb d_Part_timesDefined_22 hl rfl rfl (Nat.le_of_ble_eq_true rfl) rfl (fun ls hl => ?_)
        have hl : lv_has ls 4 [(2, .int (w2 + (1 : Int32))), (3, .int w3), (0, .ref (sm_a v w0)), (1, .int w1)] := hl
        refine lv_iinc (v := w3 + (1 : Int32)) (k := 1) hx hb d_Part_timesDefined_25 hl rfl rfl (Nat.le_of_ble_eq_true rfl) rfl (fun ls hl => ?_)
        have hl : lv_has ls 4 [(3, .int (w3 + (1 : Int32))), (2, .int (w2 + (1 : Int32))), (0, .ref (sm_a v w0)), (1, .int w1)] := hl
        refine lv_goto hx hb d_Part_timesDefined_28 rfl ?_
        exact ih _ _ ls hl hf
set_option maxHeartbeats 4000000 in
set_option maxRecDepth 100000 in
theorem c_Part_timesDefined {l : Launch} {v : sm_V} {o : sm_O} {M : sm_M} {k0 : Nat} {a0 : Int32} {r : Int32} (hk0 : sm_isP k0) (hf : f_Part_timesDefined M k0 a0 = some r) : sm_Ri l y_Part_timesDefined w_Part_timesDefined rm_Part_timesDefined v [.ref (sm_a v k0), .int a0] M o r  := by
  refine sm_met (cc := b_Part_timesDefined) (nL := 4) (ret := some .int) (plainFor_of_name (by decide)) rfl (Nat.le_of_ble_eq_true rfl) (fun p e s m args below meth c hC hr hlk hK hG ls hl => ?_)
  have hx := hC.1
  have hb := hC.2.1
  have hl : lv_has ls 4 [(0, .ref (sm_a v k0)), (1, .int a0)] := hl
  unfold f_Part_timesDefined at hf
  refine lv_iconst (v := 0) hx hb d_Part_timesDefined_0 (by decide) ?_
  refine lv_istore_n hx hb d_Part_timesDefined_1 rfl hl (Nat.le_of_ble_eq_true rfl) rfl (fun ls hl => ?_)
  have hl : lv_has ls 4 [(2, .int (0 : Int32)), (0, .ref (sm_a v k0)), (1, .int a0)] := hl
  refine lv_iconst (v := 0) hx hb d_Part_timesDefined_2 (by decide) ?_
  refine lv_istore_n hx hb d_Part_timesDefined_3 rfl hl (Nat.le_of_ble_eq_true rfl) rfl (fun ls hl => ?_)
  have hl : lv_has ls 4 [(3, .int (0 : Int32)), (2, .int (0 : Int32)), (0, .ref (sm_a v k0)), (1, .int a0)] := hl
  exact lw_Part_timesDefined_4 hC hr hlk hK k0 M k0 a0 hG hk0 hk0 1100 _ _ ls hl hf
abbrev w_Part_definitionOf : List Cond := Cond.code y_Part_definitionOf b_Part_definitionOf 3 (some .int) :: sm_AW
abbrev rm_Part_definitionOf : Room := { frames := 0, cells := 0, slots := 0, locals := 0 }
def g_Part_definitionOf_2 (k0 : Nat) (M : sm_M) (w0 : Nat) (w1 : Int32) (rec2 : Int32 → Option (Int32)) (w2 : Int32) : Option (Int32) :=
(if (M w0 6) ≤ w2 then
(some (-1 : Int32))
else
sm_gd w2 8 (
(if (M (w0 + 5) (Int32.toNatClampNeg w2)) = w1 then
(some w2)
else
rec2 (w2 + (1 : Int32)))))
def f_Part_definitionOf (M : sm_M) (k0 : Nat) (a0 : Int32) : Option (Int32) :=
sm_lp1 (g_Part_definitionOf_2 k0 M k0 a0) 1100 (0 : Int32)
set_option maxHeartbeats 4000000 in
set_option maxRecDepth 100000 in
theorem lw_Part_definitionOf_2 {p : Program} {l : Launch} {e : Env} {s : State} {m : MethodId} {args : Array Value} {below : List Frame} {meth : Method} {c : Code} {v : sm_V} {o : sm_O} {r : Int32} (hC : CallFix p m c b_Part_definitionOf 3 s args w_Part_definitionOf R_Part) (hr : meth.sig.returnType = some .int) (hlk : meth.locks = false) (hK : sm_K v s) (k0 : Nat) (M : sm_M) (w0 : Nat) (w1 : Int32) (hG : sm_G v M o s s.heap []) (hk0 : sm_isP k0) (hw0 : sm_isP w0) :
    ∀ (n : Nat) (w2 : Int32) (ls : Array Slot), lv_has ls 3 [(2, .int w2), (0, .ref (sm_a v w0)), (1, .int w1)] → sm_lp1 (g_Part_definitionOf_2 k0 M w0 w1) n w2 = some r → W p l e rm_Part_definitionOf s m args below meth c s.heap [] 0 0 (MQ below (sm_Qi0 r) args s 0 0 (fun _ => False)) (F0 m 2 ls []) := by
  have hx := hC.1
  have hb := hC.2.1
  intro n
  induction n with
  | zero =>
    intro w2 ls hl hf
    cases hf
  | succ n ih =>
    intro w2 ls hl hf
    have hf : g_Part_definitionOf_2 k0 M w0 w1 (sm_lp1 (g_Part_definitionOf_2 k0 M w0 w1) n) w2 = some r := hf
    unfold g_Part_definitionOf_2 at hf
    refine lv_iload_n hx hb d_Part_definitionOf_2 rfl (lv_at hl 0 rfl) ?_
    refine lv_aload_n hx hb d_Part_definitionOf_3 rfl (lv_at hl 1 rfl) ?_
    refine gf_Part_56 hC hK hG hw0 d_Part_definitionOf_4 ?_
    refine lv_icmp_ge hx hb d_Part_definitionOf_7 rfl (fun h7_1 => ?_) (fun h7_1 => ?_)
    · have hf := sm_t h7_1 hf
      refine lv_iconst (v := -1) hx hb d_Part_definitionOf_28 (by decide) ?_
      obtain rfl := Option.some.inj hf
      exact sm_iret0 hC hr hlk d_Part_definitionOf_29
    · have hf := sm_f h7_1 hf
      refine lv_aload_n hx hb d_Part_definitionOf_10 rfl (lv_at hl 1 rfl) ?_
      refine gf_Part_23 hC hK hG hw0 d_Part_definitionOf_11 ?_
      refine lv_iload_n hx hb d_Part_definitionOf_14 rfl (lv_at hl 0 rfl) ?_
      obtain ⟨h15_2, hf⟩ := sm_of_gd hf
      refine sm_iald hC hK hG (sm_p5 hw0).1 (sm_p5 hw0).2 h15_2 d_Part_definitionOf_15 ?_
      refine lv_iload_n hx hb d_Part_definitionOf_16 rfl (lv_at hl 2 rfl) ?_
      refine lv_icmp_ne hx hb d_Part_definitionOf_17 rfl (fun h17_3 => ?_) (fun h17_3 => ?_)
      · have hf := sm_f h17_3 hf
        refine lv_iinc (v := w2 + (1 : Int32)) (k := 0) hx hb d_Part_definitionOf_22 hl rfl rfl (Nat.le_of_ble_eq_true rfl) rfl (fun ls hl => ?_)
        have hl : lv_has ls 3 [(2, .int (w2 + (1 : Int32))), (0, .ref (sm_a v w0)), (1, .int w1)] := hl
        refine lv_goto hx hb d_Part_definitionOf_25 rfl ?_
        exact ih _ ls hl hf
      · have hf := sm_t h17_3 hf
        refine lv_iload_n hx hb d_Part_definitionOf_20 rfl (lv_at hl 0 rfl) ?_
        obtain rfl := Option.some.inj hf
        exact sm_iret0 hC hr hlk d_Part_definitionOf_21
set_option maxHeartbeats 4000000 in
set_option maxRecDepth 100000 in
theorem c_Part_definitionOf {l : Launch} {v : sm_V} {o : sm_O} {M : sm_M} {k0 : Nat} {a0 : Int32} {r : Int32} (hk0 : sm_isP k0) (hf : f_Part_definitionOf M k0 a0 = some r) : sm_Ri l y_Part_definitionOf w_Part_definitionOf rm_Part_definitionOf v [.ref (sm_a v k0), .int a0] M o r  := by
  refine sm_met (cc := b_Part_definitionOf) (nL := 3) (ret := some .int) (plainFor_of_name (by decide)) rfl (Nat.le_of_ble_eq_true rfl) (fun p e s m args below meth c hC hr hlk hK hG ls hl => ?_)
  have hx := hC.1
  have hb := hC.2.1
  have hl : lv_has ls 3 [(0, .ref (sm_a v k0)), (1, .int a0)] := hl
  unfold f_Part_definitionOf at hf
  refine lv_iconst (v := 0) hx hb d_Part_definitionOf_0 (by decide) ?_
  refine lv_istore_n hx hb d_Part_definitionOf_1 rfl hl (Nat.le_of_ble_eq_true rfl) rfl (fun ls hl => ?_)
  have hl : lv_has ls 3 [(2, .int (0 : Int32)), (0, .ref (sm_a v k0)), (1, .int a0)] := hl
  exact lw_Part_definitionOf_2 hC hr hlk hK k0 M k0 a0 hG hk0 hk0 1100 _ ls hl hf
theorem ca_Fix_11 {p : Program} {l : Launch} {e : Env} {R : Room} {s : State} {m : MethodId} {args : Array Value} {below : List Frame} {meth : Method} {c : Code} {H : Heap} {locs : List Loc} {cells slots : Nat} {Q : State → Prop} {cc : ByteArray} {nL pc : Nat} {ls : Array Slot} {rest : List Value} {w0 : Cond} {v : sm_V} {M : sm_M} {o : sm_O} {x0 : Int32} {x1 : Int32} {r : Int32} (hC : CallFix p m c cc nL s args (w0 :: sm_AW) R_Fix) (hK : sm_K v s) (hG : sm_G v M o s H locs) (hM : sm_Ri l y_Mill_fitsSigned w_Mill_fitsSigned rm_Mill_fitsSigned v [.int x0, .int x1] M o r) (hsz : ls.size = nL) (hR : rm_Mill_fitsSigned.frames + 1 ≤ R.frames ∧ 8 + (3 + 11) + rm_Mill_fitsSigned.locals ≤ R.locals) (hcs : cells + 0 ≤ R.cells ∧ slots + 0 ≤ R.slots) (hW : (rest.map fun v => v.category).sum ≤ 8) (hdg : decode cc pc = .ok (.invokestatic 11, 3))
    (kk : W p l e R s m args below meth c H locs cells slots Q (F0 m (pc + 3) ls (.int r :: rest))) : W p l e R s m args below meth c H locs cells slots Q (F0 m pc ls (.int x1 :: .int x0 :: rest)) :=
  sm_calli0 (va_runSN (As := [.int x0, .int x1]) (rest := rest) hC hM ⟨va_cnB 2 hC.2.2.2.2 (sm_good (sm_inC aw_308)) rfl rfl rfl (hK.2.1 _ nw_525) (hC.2.2.2.2 _ (List.mem_cons_of_mem _ aw_1)) (by decide +kernel) hR, hC.2.2.2.2 _ (List.mem_cons_of_mem _ aw_307), trivial⟩ (sm_preS hK hG) rfl rfl hsz rfl (lv_room hW) hdg hcs) kk
abbrev w_Fix_reaches : List Cond := Cond.code y_Fix_reaches b_Fix_reaches 3 (some .boolean) :: sm_AW
abbrev rm_Fix_reaches : Room := { frames := 1, cells := 0, slots := 0, locals := 22 }
def j_Fix_reaches_24 (y1 : Int32) (z0 : Int32) : Option (Int32) :=
(if (y1 - y1 / (2 : Int32) * (2 : Int32)) = 0 then
sm_b1 (f_Mill_fitsSigned (y1 / (2 : Int32)) ((32 : Int32) - z0)) fun r38_5 =>
(if r38_5 = 0 then
(some (0 : Int32))
else
(some (1 : Int32)))
else
(some (0 : Int32)))
def j_Fix_reaches_12 (y0 : Int32) (y1 : Int32) : Option (Int32) :=
(if y0 = (3 : Int32) then
j_Fix_reaches_24 y1 (20 : Int32)
else
j_Fix_reaches_24 y1 (10 : Int32))
def f_Fix_reaches (a0 : Int32) (a1 : Int32) : Option (Int32) :=
(if a0 = (3 : Int32) then
j_Fix_reaches_12 a0 a1
else
(if a0 = (4 : Int32) then
j_Fix_reaches_12 a0 a1
else
(some (1 : Int32))))
set_option maxHeartbeats 4000000 in
set_option maxRecDepth 100000 in
theorem jw_Fix_reaches_24 {p : Program} {l : Launch} {e : Env} {s : State} {m : MethodId} {args : Array Value} {below : List Frame} {meth : Method} {c : Code} {v : sm_V} {o : sm_O} {r : Int32} (hC : CallFix p m c b_Fix_reaches 3 s args w_Fix_reaches R_Fix) (hr : meth.sig.returnType = some .boolean) (hlk : meth.locks = false) (hK : sm_K v s) {M : sm_M} (y1 : Int32) (z0 : Int32) {ls : Array Slot} (hG : sm_G v M o s s.heap []) (hl : lv_has ls 3 [(1, .int y1)]) (hf : j_Fix_reaches_24 y1 z0 = some r) : W p l e rm_Fix_reaches s m args below meth c s.heap [] 0 0 (MQ below (sm_Qi0 r) args s 0 0 (fun _ => False)) (F0 m 24 ls [.int z0]) := by
  have hx := hC.1
  have hb := hC.2.1
  unfold j_Fix_reaches_24 at hf
  refine lv_istore_n hx hb d_Fix_reaches_24 rfl hl (Nat.le_of_ble_eq_true rfl) rfl (fun ls hl => ?_)
  have hl : lv_has ls 3 [(2, .int z0), (1, .int y1)] := hl
  refine lv_iload_n hx hb d_Fix_reaches_25 rfl (lv_at hl 1 rfl) ?_
  refine lv_iconst (v := 2) hx hb d_Fix_reaches_26 (by decide) ?_
  refine lv_irem hx hb d_Fix_reaches_27 (by decide) ?_
  refine lv_if_ne hx hb d_Fix_reaches_28 rfl (fun h28_3 => ?_) (fun h28_3 => ?_)
  · have hf := sm_f h28_3 hf
    refine lv_iconst (v := 0) hx hb d_Fix_reaches_48 (by decide) ?_
    obtain rfl := Option.some.inj hf
    exact sm_zret0 hC hr rfl hlk d_Fix_reaches_49
  · have hf := sm_t h28_3 hf
    refine lv_iload_n hx hb d_Fix_reaches_31 rfl (lv_at hl 1 rfl) ?_
    refine lv_iconst (v := 2) hx hb d_Fix_reaches_32 (by decide) ?_
    refine lv_idiv hx hb d_Fix_reaches_33 (by decide) ?_
    refine lv_bipush (v := 32) hx hb d_Fix_reaches_34 (by decide) ?_
    refine lv_iload_n hx hb d_Fix_reaches_36 rfl (lv_at hl 0 rfl) ?_
    refine lv_isub hx hb d_Fix_reaches_37 ?_
    obtain ⟨r38_5, hc38_4, hf⟩ := sm_of_b1 hf
    refine ca_Fix_11 hC hK hG (c_Mill_fitsSigned hc38_4) hl.1 ⟨Nat.le_of_ble_eq_true rfl, Nat.le_of_ble_eq_true rfl⟩ ⟨Nat.zero_le _, Nat.zero_le _⟩ (Nat.le_of_ble_eq_true rfl) d_Fix_reaches_38 ?_
    refine lv_if_eq hx hb d_Fix_reaches_41 rfl (fun h41_7 => ?_) (fun h41_7 => ?_)
    · have hf := sm_t h41_7 hf
      refine lv_iconst (v := 0) hx hb d_Fix_reaches_48 (by decide) ?_
      obtain rfl := Option.some.inj hf
      exact sm_zret0 hC hr rfl hlk d_Fix_reaches_49
    · have hf := sm_f h41_7 hf
      refine lv_iconst (v := 1) hx hb d_Fix_reaches_44 (by decide) ?_
      refine lv_goto hx hb d_Fix_reaches_45 rfl ?_
      obtain rfl := Option.some.inj hf
      exact sm_zret0 hC hr rfl hlk d_Fix_reaches_49
set_option maxHeartbeats 4000000 in
set_option maxRecDepth 100000 in
theorem jw_Fix_reaches_12 {p : Program} {l : Launch} {e : Env} {s : State} {m : MethodId} {args : Array Value} {below : List Frame} {meth : Method} {c : Code} {v : sm_V} {o : sm_O} {r : Int32} (hC : CallFix p m c b_Fix_reaches 3 s args w_Fix_reaches R_Fix) (hr : meth.sig.returnType = some .boolean) (hlk : meth.locks = false) (hK : sm_K v s) {M : sm_M} (y0 : Int32) (y1 : Int32) {ls : Array Slot} (hG : sm_G v M o s s.heap []) (hl : lv_has ls 3 [(0, .int y0), (1, .int y1)]) (hf : j_Fix_reaches_12 y0 y1 = some r) : W p l e rm_Fix_reaches s m args below meth c s.heap [] 0 0 (MQ below (sm_Qi0 r) args s 0 0 (fun _ => False)) (F0 m 12 ls []) := by
  have hx := hC.1
  have hb := hC.2.1
  unfold j_Fix_reaches_12 at hf
  refine lv_iload_n hx hb d_Fix_reaches_12 rfl (lv_at hl 0 rfl) ?_
  refine lv_iconst (v := 3) hx hb d_Fix_reaches_13 (by decide) ?_
  refine lv_icmp_ne hx hb d_Fix_reaches_14 rfl (fun h14_2 => ?_) (fun h14_2 => ?_)
  · have hf := sm_f h14_2 hf
    refine lv_bipush (v := 10) hx hb d_Fix_reaches_22 (by decide) ?_
    exact jw_Fix_reaches_24 hC hr hlk hK y1 (10 : Int32) hG (lv_sub hl [1] rfl) hf
  · have hf := sm_t h14_2 hf
    refine lv_bipush (v := 20) hx hb d_Fix_reaches_17 (by decide) ?_
    refine lv_goto hx hb d_Fix_reaches_19 rfl ?_
    exact jw_Fix_reaches_24 hC hr hlk hK y1 (20 : Int32) hG (lv_sub hl [1] rfl) hf
set_option maxHeartbeats 4000000 in
set_option maxRecDepth 100000 in
theorem c_Fix_reaches {l : Launch} {v : sm_V} {o : sm_O} {M : sm_M} {a0 : Int32} {a1 : Int32} {r : Int32} (hf : f_Fix_reaches a0 a1 = some r) : sm_Ri l y_Fix_reaches w_Fix_reaches rm_Fix_reaches v [.int a0, .int a1] M o r  := by
  refine sm_met (cc := b_Fix_reaches) (nL := 3) (ret := some .boolean) (plainFor_of_name (by decide)) rfl (Nat.le_of_ble_eq_true rfl) (fun p e s m args below meth c hC hr hlk hK hG ls hl => ?_)
  have hx := hC.1
  have hb := hC.2.1
  have hl : lv_has ls 3 [(0, .int a0), (1, .int a1)] := hl
  unfold f_Fix_reaches at hf
  refine lv_iload_n hx hb d_Fix_reaches_0 rfl (lv_at hl 0 rfl) ?_
  refine lv_iconst (v := 3) hx hb d_Fix_reaches_1 (by decide) ?_
  refine lv_icmp_eq hx hb d_Fix_reaches_2 rfl (fun h2_1 => ?_) (fun h2_1 => ?_)
  · have hf := sm_t h2_1 hf
    exact jw_Fix_reaches_12 hC hr hlk hK a0 a1 hG hl hf
  · have hf := sm_f h2_1 hf
    refine lv_iload_n hx hb d_Fix_reaches_5 rfl (lv_at hl 0 rfl) ?_
    refine lv_iconst (v := 4) hx hb d_Fix_reaches_6 (by decide) ?_
    refine lv_icmp_eq hx hb d_Fix_reaches_7 rfl (fun h7_8 => ?_) (fun h7_8 => ?_)
    · have hf := sm_t h7_8 hf
      exact jw_Fix_reaches_12 hC hr hlk hK a0 a1 hG hl hf
    · have hf := sm_f h7_8 hf
      refine lv_iconst (v := 1) hx hb d_Fix_reaches_10 (by decide) ?_
      obtain rfl := Option.some.inj hf
      exact sm_zret0 hC hr rfl hlk d_Fix_reaches_11
abbrev w_Image_resize : List Cond := Cond.code y_Image_resize b_Image_resize 3 (none) :: sm_AW
abbrev rm_Image_resize : Room := { frames := 0, cells := 0, slots := 0, locals := 0 }
def g_Image_resize_5 (w1 : Int32) (rec5 : sm_M → Int32 → Option (sm_M)) (M : sm_M) (w2 : Int32) : Option (sm_M) :=
(if w1 ≤ w2 then
sm_nm (sm_up M 62 1 w1) fun M25_3 =>
(some M25_3)
else
sm_gd w2 1000 (
sm_nm (sm_up M 63 (Int32.toNatClampNeg w2) (0 : Int32)) fun M16_5 =>
rec5 M16_5 (w2 + (1 : Int32))))
def f_Image_resize (M : sm_M) (a0 : Int32) : Option (sm_M) :=
sm_nm (M 62 1) fun x4_1 =>
sm_lp2 (g_Image_resize_5 a0) 1100 M x4_1
set_option maxHeartbeats 4000000 in
set_option maxRecDepth 100000 in
theorem lw_Image_resize_5 {p : Program} {l : Launch} {e : Env} {s : State} {m : MethodId} {args : Array Value} {below : List Frame} {meth : Method} {c : Code} {v : sm_V} {o : sm_O} {M' : sm_M} (hC : CallFix p m c b_Image_resize 3 s args w_Image_resize R_Image) (hr : meth.sig.returnType = none) (hlk : meth.locks = false) (hK : sm_K v s) (w1 : Int32) :
    ∀ (n : Nat) (M : sm_M) (w2 : Int32) (H : Heap) (locs : List Loc) (ls : Array Slot), sm_G v M o s H locs → lv_has ls 3 [(2, .int w2), (0, .ref (sm_a v 62)), (1, .int w1)] → sm_lp2 (g_Image_resize_5 w1) n M w2 = some M' → W p l e rm_Image_resize s m args below meth c H locs 0 0 (MQ below (sm_Qv v M' o) args s 0 0 (sm_A v)) (F0 m 5 ls []) := by
  have hx := hC.1
  have hb := hC.2.1
  intro n
  induction n with
  | zero =>
    intro M w2 H locs ls hG hl hf
    cases hf
  | succ n ih =>
    intro M w2 H locs ls hG hl hf
    have hf : g_Image_resize_5 w1 (sm_lp2 (g_Image_resize_5 w1) n) M w2 = some M' := hf
    unfold g_Image_resize_5 at hf
    refine lv_iload_n hx hb d_Image_resize_5 rfl (lv_at hl 0 rfl) ?_
    refine lv_iload_n hx hb d_Image_resize_6 rfl (lv_at hl 2 rfl) ?_
    refine lv_icmp_ge hx hb d_Image_resize_7 rfl (fun h7_2 => ?_) (fun h7_2 => ?_)
    · have hf := sm_t h7_2 hf
      refine lv_aload_n hx hb d_Image_resize_23 rfl (lv_at hl 1 rfl) ?_
      refine lv_iload_n hx hb d_Image_resize_24 rfl (lv_at hl 2 rfl) ?_
      refine pf_Image_15 hC hK hG d_Image_resize_25 (fun M25_3 H locs eM25_3 hG => ?_)
      have hf := sm_of eM25_3 hf
      obtain rfl := Option.some.inj hf
      exact sm_vret hC hr hlk hG d_Image_resize_28
    · have hf := sm_f h7_2 hf
      refine lv_aload_n hx hb d_Image_resize_10 rfl (lv_at hl 1 rfl) ?_
      refine gf_Image_9 hC hK hG d_Image_resize_11 ?_
      refine lv_iload_n hx hb d_Image_resize_14 rfl (lv_at hl 0 rfl) ?_
      refine lv_iconst (v := 0) hx hb d_Image_resize_15 (by decide) ?_
      obtain ⟨h16_4, hf⟩ := sm_of_gd hf
      refine sm_iast hC hK hG (by decide) rfl h16_4 d_Image_resize_16 (fun M16_5 H locs eM16_5 hG => ?_)
      have hf := sm_of eM16_5 hf
      refine lv_iinc (v := w2 + (1 : Int32)) (k := 0) hx hb d_Image_resize_17 hl rfl rfl (Nat.le_of_ble_eq_true rfl) rfl (fun ls hl => ?_)
      have hl : lv_has ls 3 [(2, .int (w2 + (1 : Int32))), (0, .ref (sm_a v 62)), (1, .int w1)] := hl
      refine lv_goto hx hb d_Image_resize_20 rfl ?_
      exact ih _ _ _ _ ls hG hl hf
set_option maxHeartbeats 4000000 in
set_option maxRecDepth 100000 in
theorem c_Image_resize {l : Launch} {v : sm_V} {o : sm_O} {M : sm_M} {a0 : Int32} {M' : sm_M} (hf : f_Image_resize M a0 = some M') : sm_Cv l y_Image_resize w_Image_resize rm_Image_resize v [.ref (sm_a v 62), .int a0] M o M' := by
  refine sm_met (cc := b_Image_resize) (nL := 3) (ret := none) (plainFor_of_name (by decide)) rfl (Nat.le_of_ble_eq_true rfl) (fun p e s m args below meth c hC hr hlk hK hG ls hl => ?_)
  have hx := hC.1
  have hb := hC.2.1
  have hl : lv_has ls 3 [(0, .ref (sm_a v 62)), (1, .int a0)] := hl
  unfold f_Image_resize at hf
  refine lv_aload_n hx hb d_Image_resize_0 rfl (lv_at hl 0 rfl) ?_
  refine gf_Image_15 hC hK hG d_Image_resize_1 ?_
  refine lv_topi (fun x4_1 ex4_1 => ?_)
  have hf := sm_of ex4_1 hf
  refine lv_istore_n hx hb d_Image_resize_4 rfl hl (Nat.le_of_ble_eq_true rfl) rfl (fun ls hl => ?_)
  have hl : lv_has ls 3 [(2, .int x4_1), (0, .ref (sm_a v 62)), (1, .int a0)] := hl
  exact lw_Image_resize_5 hC hr hlk hK a0 1100 _ _ _ _ ls hG hl hf
abbrev w_Image_setWord : List Cond := Cond.code y_Image_setWord b_Image_setWord 3 (none) :: sm_AW
abbrev rm_Image_setWord : Room := { frames := 0, cells := 0, slots := 0, locals := 0 }
def f_Image_setWord (M : sm_M) (a0 : Int32) (a1 : Int32) : Option (sm_M) :=
sm_gd a0 1000 (
sm_nm (sm_up M 63 (Int32.toNatClampNeg a0) (a1 &&& (255 : Int32))) fun M10_2 =>
sm_gd (a0 + (1 : Int32)) 1000 (
sm_nm (sm_up M10_2 63 (Int32.toNatClampNeg (a0 + (1 : Int32))) ((a1 >>> ((8 : Int32) &&& 31)) &&& (255 : Int32))) fun M26_4 =>
sm_gd (a0 + (2 : Int32)) 1000 (
sm_nm (sm_up M26_4 63 (Int32.toNatClampNeg (a0 + (2 : Int32))) ((a1 >>> ((16 : Int32) &&& 31)) &&& (255 : Int32))) fun M42_6 =>
sm_gd (a0 + (3 : Int32)) 1000 (
sm_nm (sm_up M42_6 63 (Int32.toNatClampNeg (a0 + (3 : Int32))) ((a1 >>> ((24 : Int32) &&& 31)) &&& (255 : Int32))) fun M58_8 =>
(some M58_8)))))
set_option maxHeartbeats 4000000 in
set_option maxRecDepth 100000 in
theorem c_Image_setWord {l : Launch} {v : sm_V} {o : sm_O} {M : sm_M} {a0 : Int32} {a1 : Int32} {M' : sm_M} (hf : f_Image_setWord M a0 a1 = some M') : sm_Cv l y_Image_setWord w_Image_setWord rm_Image_setWord v [.ref (sm_a v 62), .int a0, .int a1] M o M' := by
  refine sm_met (cc := b_Image_setWord) (nL := 3) (ret := none) (plainFor_of_name (by decide)) rfl (Nat.le_of_ble_eq_true rfl) (fun p e s m args below meth c hC hr hlk hK hG ls hl => ?_)
  have hx := hC.1
  have hb := hC.2.1
  have hl : lv_has ls 3 [(0, .ref (sm_a v 62)), (1, .int a0), (2, .int a1)] := hl
  unfold f_Image_setWord at hf
  refine lv_aload_n hx hb d_Image_setWord_0 rfl (lv_at hl 0 rfl) ?_
  refine gf_Image_9 hC hK hG d_Image_setWord_1 ?_
  refine lv_iload_n hx hb d_Image_setWord_4 rfl (lv_at hl 1 rfl) ?_
  refine lv_iload_n hx hb d_Image_setWord_5 rfl (lv_at hl 2 rfl) ?_
  refine lv_sipush (v := 255) hx hb d_Image_setWord_6 (by decide) ?_
  refine lv_iand hx hb d_Image_setWord_9 ?_
  obtain ⟨h10_1, hf⟩ := sm_of_gd hf
  refine sm_iast hC hK hG (by decide) rfl h10_1 d_Image_setWord_10 (fun M10_2 H locs eM10_2 hG => ?_)
  have hf := sm_of eM10_2 hf
  refine lv_aload_n hx hb d_Image_setWord_11 rfl (lv_at hl 0 rfl) ?_
  refine gf_Image_9 hC hK hG d_Image_setWord_12 ?_
  refine lv_iload_n hx hb d_Image_setWord_15 rfl (lv_at hl 1 rfl) ?_
  refine lv_iconst (v := 1) hx hb d_Image_setWord_16 (by decide) ?_
  refine lv_iadd hx hb d_Image_setWord_17 ?_
  refine lv_iload_n hx hb d_Image_setWord_18 rfl (lv_at hl 2 rfl) ?_
  refine lv_bipush (v := 8) hx hb d_Image_setWord_19 (by decide) ?_
  refine lv_ishr hx hb d_Image_setWord_21 ?_
  refine lv_sipush (v := 255) hx hb d_Image_setWord_22 (by decide) ?_
  refine lv_iand hx hb d_Image_setWord_25 ?_
  obtain ⟨h26_3, hf⟩ := sm_of_gd hf
  refine sm_iast hC hK hG (by decide) rfl h26_3 d_Image_setWord_26 (fun M26_4 H locs eM26_4 hG => ?_)
  have hf := sm_of eM26_4 hf
  refine lv_aload_n hx hb d_Image_setWord_27 rfl (lv_at hl 0 rfl) ?_
  refine gf_Image_9 hC hK hG d_Image_setWord_28 ?_
  refine lv_iload_n hx hb d_Image_setWord_31 rfl (lv_at hl 1 rfl) ?_
  refine lv_iconst (v := 2) hx hb d_Image_setWord_32 (by decide) ?_
  refine lv_iadd hx hb d_Image_setWord_33 ?_
  refine lv_iload_n hx hb d_Image_setWord_34 rfl (lv_at hl 2 rfl) ?_
  refine lv_bipush (v := 16) hx hb d_Image_setWord_35 (by decide) ?_
  refine lv_ishr hx hb d_Image_setWord_37 ?_
  refine lv_sipush (v := 255) hx hb d_Image_setWord_38 (by decide) ?_
  refine lv_iand hx hb d_Image_setWord_41 ?_
  obtain ⟨h42_5, hf⟩ := sm_of_gd hf
  refine sm_iast hC hK hG (by decide) rfl h42_5 d_Image_setWord_42 (fun M42_6 H locs eM42_6 hG => ?_)
  have hf := sm_of eM42_6 hf
  refine lv_aload_n hx hb d_Image_setWord_43 rfl (lv_at hl 0 rfl) ?_
  refine gf_Image_9 hC hK hG d_Image_setWord_44 ?_
  refine lv_iload_n hx hb d_Image_setWord_47 rfl (lv_at hl 1 rfl) ?_
  refine lv_iconst (v := 3) hx hb d_Image_setWord_48 (by decide) ?_
  refine lv_iadd hx hb d_Image_setWord_49 ?_
  refine lv_iload_n hx hb d_Image_setWord_50 rfl (lv_at hl 2 rfl) ?_
  refine lv_bipush (v := 24) hx hb d_Image_setWord_51 (by decide) ?_
  refine lv_ishr hx hb d_Image_setWord_53 ?_
  refine lv_sipush (v := 255) hx hb d_Image_setWord_54 (by decide) ?_
  refine lv_iand hx hb d_Image_setWord_57 ?_
  obtain ⟨h58_7, hf⟩ := sm_of_gd hf
  refine sm_iast hC hK hG (by decide) rfl h58_7 d_Image_setWord_58 (fun M58_8 H locs eM58_8 hG => ?_)
  have hf := sm_of eM58_8 hf
  obtain rfl := Option.some.inj hf
  exact sm_vret hC hr hlk hG d_Image_setWord_59
abbrev w_Image_wordAt : List Cond := Cond.code y_Image_wordAt b_Image_wordAt 2 (some .int) :: sm_AW
abbrev rm_Image_wordAt : Room := { frames := 0, cells := 0, slots := 0, locals := 0 }
def f_Image_wordAt (M : sm_M) (a0 : Int32) : Option (Int32) :=
sm_gd a0 1000 (
sm_gd (a0 + (1 : Int32)) 1000 (
sm_gd (a0 + (2 : Int32)) 1000 (
sm_gd (a0 + (3 : Int32)) 1000 (
(some ((((M 63 (Int32.toNatClampNeg a0)) ||| ((M 63 (Int32.toNatClampNeg (a0 + (1 : Int32)))) <<< ((8 : Int32) &&& 31))) ||| ((M 63 (Int32.toNatClampNeg (a0 + (2 : Int32)))) <<< ((16 : Int32) &&& 31))) ||| ((M 63 (Int32.toNatClampNeg (a0 + (3 : Int32)))) <<< ((24 : Int32) &&& 31))))))))
set_option maxHeartbeats 4000000 in
set_option maxRecDepth 100000 in
theorem c_Image_wordAt {l : Launch} {v : sm_V} {o : sm_O} {M : sm_M} {a0 : Int32} {r : Int32} (hf : f_Image_wordAt M a0 = some r) : sm_Ri l y_Image_wordAt w_Image_wordAt rm_Image_wordAt v [.ref (sm_a v 62), .int a0] M o r  := by
  refine sm_met (cc := b_Image_wordAt) (nL := 2) (ret := some .int) (plainFor_of_name (by decide)) rfl (Nat.le_of_ble_eq_true rfl) (fun p e s m args below meth c hC hr hlk hK hG ls hl => ?_)
  have hx := hC.1
  have hb := hC.2.1
  have hl : lv_has ls 2 [(0, .ref (sm_a v 62)), (1, .int a0)] := hl
  unfold f_Image_wordAt at hf
  refine lv_aload_n hx hb d_Image_wordAt_0 rfl (lv_at hl 0 rfl) ?_
  refine gf_Image_9 hC hK hG d_Image_wordAt_1 ?_
  refine lv_iload_n hx hb d_Image_wordAt_4 rfl (lv_at hl 1 rfl) ?_
  obtain ⟨h5_1, hf⟩ := sm_of_gd hf
  refine sm_iald hC hK hG (by decide) rfl h5_1 d_Image_wordAt_5 ?_
  refine lv_aload_n hx hb d_Image_wordAt_6 rfl (lv_at hl 0 rfl) ?_
  refine gf_Image_9 hC hK hG d_Image_wordAt_7 ?_
  refine lv_iload_n hx hb d_Image_wordAt_10 rfl (lv_at hl 1 rfl) ?_
  refine lv_iconst (v := 1) hx hb d_Image_wordAt_11 (by decide) ?_
  refine lv_iadd hx hb d_Image_wordAt_12 ?_
  obtain ⟨h13_2, hf⟩ := sm_of_gd hf
  refine sm_iald hC hK hG (by decide) rfl h13_2 d_Image_wordAt_13 ?_
  refine lv_bipush (v := 8) hx hb d_Image_wordAt_14 (by decide) ?_
  refine lv_ishl hx hb d_Image_wordAt_16 ?_
  refine lv_ior hx hb d_Image_wordAt_17 ?_
  refine lv_aload_n hx hb d_Image_wordAt_18 rfl (lv_at hl 0 rfl) ?_
  refine gf_Image_9 hC hK hG d_Image_wordAt_19 ?_
  refine lv_iload_n hx hb d_Image_wordAt_22 rfl (lv_at hl 1 rfl) ?_
  refine lv_iconst (v := 2) hx hb d_Image_wordAt_23 (by decide) ?_
  refine lv_iadd hx hb d_Image_wordAt_24 ?_
  obtain ⟨h25_3, hf⟩ := sm_of_gd hf
  refine sm_iald hC hK hG (by decide) rfl h25_3 d_Image_wordAt_25 ?_
  refine lv_bipush (v := 16) hx hb d_Image_wordAt_26 (by decide) ?_
  refine lv_ishl hx hb d_Image_wordAt_28 ?_
  refine lv_ior hx hb d_Image_wordAt_29 ?_
  refine lv_aload_n hx hb d_Image_wordAt_30 rfl (lv_at hl 0 rfl) ?_
  refine gf_Image_9 hC hK hG d_Image_wordAt_31 ?_
  refine lv_iload_n hx hb d_Image_wordAt_34 rfl (lv_at hl 1 rfl) ?_
  refine lv_iconst (v := 3) hx hb d_Image_wordAt_35 (by decide) ?_
  refine lv_iadd hx hb d_Image_wordAt_36 ?_
  obtain ⟨h37_4, hf⟩ := sm_of_gd hf
  refine sm_iald hC hK hG (by decide) rfl h37_4 d_Image_wordAt_37 ?_
  refine lv_bipush (v := 24) hx hb d_Image_wordAt_38 (by decide) ?_
  refine lv_ishl hx hb d_Image_wordAt_40 ?_
  refine lv_ior hx hb d_Image_wordAt_41 ?_
  obtain rfl := Option.some.inj hf
  exact sm_iret0 hC hr hlk d_Image_wordAt_42
theorem ca_Image_19 {p : Program} {l : Launch} {e : Env} {R : Room} {s : State} {m : MethodId} {args : Array Value} {below : List Frame} {meth : Method} {c : Code} {H : Heap} {locs : List Loc} {cells slots : Nat} {Q : State → Prop} {cc : ByteArray} {nL pc : Nat} {ls : Array Slot} {rest : List Value} {w0 : Cond} {v : sm_V} {M : sm_M} {o : sm_O} {x0 : Int32} {r : Int32} (hC : CallFix p m c cc nL s args (w0 :: sm_AW) R_Image) (hK : sm_K v s) (hG : sm_G v M o s H locs) (hM : sm_Ri l y_Image_wordAt w_Image_wordAt rm_Image_wordAt v [.ref (sm_a v 62), .int x0] M o r) (hsz : ls.size = nL) (hR : rm_Image_wordAt.frames + 1 ≤ R.frames ∧ 8 + (2 + 11) + rm_Image_wordAt.locals ≤ R.locals) (hcs : cells + 0 ≤ R.cells ∧ slots + 0 ≤ R.slots) (hW : (rest.map fun v => v.category).sum ≤ 8) (hdg : decode cc pc = .ok (.invokevirtual 19, 3))
    (kk : W p l e R s m args below meth c H locs cells slots Q (F0 m (pc + 3) ls (.int r :: rest))) : W p l e R s m args below meth c H locs cells slots Q (F0 m pc ls (.int x0 :: .ref (sm_a v 62) :: rest)) :=
  sm_calli0 (va_runV (C := R_Image) (As := [.int x0]) (rest := rest) hC hM (cwV 1 hC.2.2.2.2 (sm_good (sm_inV aw_233 aw_234 aw_235 aw_5 aw_236)) rfl rfl rfl (by decide +kernel) hR) (sm_preV hK hG (by decide) rfl rfl) rfl rfl hsz rfl (lv_room hW) hdg hcs) kk
abbrev w_Image_headerWord : List Cond := Cond.code y_Image_headerWord b_Image_headerWord 2 (some .int) :: sm_AW
abbrev rm_Image_headerWord : Room := { frames := 1, cells := 0, slots := 0, locals := 21 }
def f_Image_headerWord (M : sm_M) (a0 : Int32) : Option (Int32) :=
sm_b1 (f_Image_wordAt M ((4 : Int32) * a0)) fun r4_2 =>
(some r4_2)
set_option maxHeartbeats 4000000 in
set_option maxRecDepth 100000 in
theorem c_Image_headerWord {l : Launch} {v : sm_V} {o : sm_O} {M : sm_M} {a0 : Int32} {r : Int32} (hf : f_Image_headerWord M a0 = some r) : sm_Ri l y_Image_headerWord w_Image_headerWord rm_Image_headerWord v [.ref (sm_a v 62), .int a0] M o r  := by
  refine sm_met (cc := b_Image_headerWord) (nL := 2) (ret := some .int) (plainFor_of_name (by decide)) rfl (Nat.le_of_ble_eq_true rfl) (fun p e s m args below meth c hC hr hlk hK hG ls hl => ?_)
  have hx := hC.1
  have hb := hC.2.1
  have hl : lv_has ls 2 [(0, .ref (sm_a v 62)), (1, .int a0)] := hl
  unfold f_Image_headerWord at hf
  refine lv_aload_n hx hb d_Image_headerWord_0 rfl (lv_at hl 0 rfl) ?_
  refine lv_iconst (v := 4) hx hb d_Image_headerWord_1 (by decide) ?_
  refine lv_iload_n hx hb d_Image_headerWord_2 rfl (lv_at hl 1 rfl) ?_
  refine lv_imul hx hb d_Image_headerWord_3 ?_
  obtain ⟨r4_2, hc4_1, hf⟩ := sm_of_b1 hf
  refine ca_Image_19 hC hK hG (c_Image_wordAt hc4_1) hl.1 ⟨Nat.le_of_ble_eq_true rfl, Nat.le_of_ble_eq_true rfl⟩ ⟨Nat.zero_le _, Nat.zero_le _⟩ (Nat.le_of_ble_eq_true rfl) d_Image_headerWord_4 ?_
  obtain rfl := Option.some.inj hf
  exact sm_iret0 hC hr hlk d_Image_headerWord_7
theorem ca_Image_23 {p : Program} {l : Launch} {e : Env} {R : Room} {s : State} {m : MethodId} {args : Array Value} {below : List Frame} {meth : Method} {c : Code} {H : Heap} {locs : List Loc} {cells slots : Nat} {Q : State → Prop} {cc : ByteArray} {nL pc : Nat} {ls : Array Slot} {rest : List Value} {w0 : Cond} {v : sm_V} {M : sm_M} {o : sm_O} {x0 : Int32} {r : Int32} (hC : CallFix p m c cc nL s args (w0 :: sm_AW) R_Image) (hK : sm_K v s) (hG : sm_G v M o s H locs) (hM : sm_Ri l y_Image_headerWord w_Image_headerWord rm_Image_headerWord v [.ref (sm_a v 62), .int x0] M o r) (hsz : ls.size = nL) (hR : rm_Image_headerWord.frames + 1 ≤ R.frames ∧ 8 + (2 + 11) + rm_Image_headerWord.locals ≤ R.locals) (hcs : cells + 0 ≤ R.cells ∧ slots + 0 ≤ R.slots) (hW : (rest.map fun v => v.category).sum ≤ 8) (hdg : decode cc pc = .ok (.invokevirtual 23, 3))
    (kk : W p l e R s m args below meth c H locs cells slots Q (F0 m (pc + 3) ls (.int r :: rest))) : W p l e R s m args below meth c H locs cells slots Q (F0 m pc ls (.int x0 :: .ref (sm_a v 62) :: rest)) :=
  sm_calli0 (va_runV (C := R_Image) (As := [.int x0]) (rest := rest) hC hM (cwV 1 hC.2.2.2.2 (sm_good (sm_inV aw_249 aw_230 aw_231 aw_5 aw_232)) rfl rfl rfl (by decide +kernel) hR) (sm_preV hK hG (by decide) rfl rfl) rfl rfl hsz rfl (lv_room hW) hdg hcs) kk
abbrev w_Image_headerSum : List Cond := Cond.code y_Image_headerSum b_Image_headerSum 3 (some .int) :: sm_AW
abbrev rm_Image_headerSum : Room := { frames := 2, cells := 0, slots := 0, locals := 42 }
def g_Image_headerSum_4 (M : sm_M) (rec4 : Int32 → Int32 → Option (Int32)) (w2 : Int32) (w1 : Int32) : Option (Int32) :=
(if (8 : Int32) ≤ w2 then
(some w1)
else
sm_b1 (f_Image_headerWord M w2) fun r13_3 =>
sm_nm (w1 + r13_3) fun x17_5 =>
rec4 (w2 + (1 : Int32)) x17_5)
def f_Image_headerSum (M : sm_M) : Option (Int32) :=
sm_lp2 (g_Image_headerSum_4 M) 1100 (0 : Int32) (0 : Int32)
set_option maxHeartbeats 4000000 in
set_option maxRecDepth 100000 in
theorem lw_Image_headerSum_4 {p : Program} {l : Launch} {e : Env} {s : State} {m : MethodId} {args : Array Value} {below : List Frame} {meth : Method} {c : Code} {v : sm_V} {o : sm_O} {r : Int32} (hC : CallFix p m c b_Image_headerSum 3 s args w_Image_headerSum R_Image) (hr : meth.sig.returnType = some .int) (hlk : meth.locks = false) (hK : sm_K v s) (M : sm_M) (hG : sm_G v M o s s.heap []) :
    ∀ (n : Nat) (w2 : Int32) (w1 : Int32) (ls : Array Slot), lv_has ls 3 [(2, .int w2), (1, .int w1), (0, .ref (sm_a v 62))] → sm_lp2 (g_Image_headerSum_4 M) n w2 w1 = some r → W p l e rm_Image_headerSum s m args below meth c s.heap [] 0 0 (MQ below (sm_Qi0 r) args s 0 0 (fun _ => False)) (F0 m 4 ls []) := by
  have hx := hC.1
  have hb := hC.2.1
  intro n
  induction n with
  | zero =>
    intro w2 w1 ls hl hf
    cases hf
  | succ n ih =>
    intro w2 w1 ls hl hf
    have hf : g_Image_headerSum_4 M (sm_lp2 (g_Image_headerSum_4 M) n) w2 w1 = some r := hf
    unfold g_Image_headerSum_4 at hf
    refine lv_iload_n hx hb d_Image_headerSum_4 rfl (lv_at hl 0 rfl) ?_
    refine lv_bipush (v := 8) hx hb d_Image_headerSum_5 (by decide) ?_
    refine lv_icmp_ge hx hb d_Image_headerSum_7 rfl (fun h7_1 => ?_) (fun h7_1 => ?_)
    · have hf := sm_t h7_1 hf
      refine lv_iload_n hx hb d_Image_headerSum_24 rfl (lv_at hl 1 rfl) ?_
      obtain rfl := Option.some.inj hf
      exact sm_iret0 hC hr hlk d_Image_headerSum_25
    · have hf := sm_f h7_1 hf
      refine lv_iload_n hx hb d_Image_headerSum_10 rfl (lv_at hl 1 rfl) ?_
      refine lv_aload_n hx hb d_Image_headerSum_11 rfl (lv_at hl 2 rfl) ?_
      refine lv_iload_n hx hb d_Image_headerSum_12 rfl (lv_at hl 0 rfl) ?_
      obtain ⟨r13_3, hc13_2, hf⟩ := sm_of_b1 hf
      refine ca_Image_23 hC hK hG (c_Image_headerWord hc13_2) hl.1 ⟨Nat.le_of_ble_eq_true rfl, Nat.le_of_ble_eq_true rfl⟩ ⟨Nat.zero_le _, Nat.zero_le _⟩ (Nat.le_of_ble_eq_true rfl) d_Image_headerSum_13 ?_
      refine lv_iadd hx hb d_Image_headerSum_16 ?_
      refine lv_topi (fun x17_5 ex17_5 => ?_)
      have hf := sm_of ex17_5 hf
      refine lv_istore_n hx hb d_Image_headerSum_17 rfl hl (Nat.le_of_ble_eq_true rfl) rfl (fun ls hl => ?_)
      have hl : lv_has ls 3 [(1, .int x17_5), (2, .int w2), (0, .ref (sm_a v 62))] := hl
      refine lv_iinc (v := w2 + (1 : Int32)) (k := 1) hx hb d_Image_headerSum_18 hl rfl rfl (Nat.le_of_ble_eq_true rfl) rfl (fun ls hl => ?_)
      have hl : lv_has ls 3 [(2, .int (w2 + (1 : Int32))), (1, .int x17_5), (0, .ref (sm_a v 62))] := hl
      refine lv_goto hx hb d_Image_headerSum_21 rfl ?_
      exact ih _ _ ls hl hf
set_option maxHeartbeats 4000000 in
set_option maxRecDepth 100000 in
theorem c_Image_headerSum {l : Launch} {v : sm_V} {o : sm_O} {M : sm_M} {r : Int32} (hf : f_Image_headerSum M = some r) : sm_Ri l y_Image_headerSum w_Image_headerSum rm_Image_headerSum v [.ref (sm_a v 62)] M o r  := by
  refine sm_met (cc := b_Image_headerSum) (nL := 3) (ret := some .int) (plainFor_of_name (by decide)) rfl (Nat.le_of_ble_eq_true rfl) (fun p e s m args below meth c hC hr hlk hK hG ls hl => ?_)
  have hx := hC.1
  have hb := hC.2.1
  have hl : lv_has ls 3 [(0, .ref (sm_a v 62))] := hl
  unfold f_Image_headerSum at hf
  refine lv_iconst (v := 0) hx hb d_Image_headerSum_0 (by decide) ?_
  refine lv_istore_n hx hb d_Image_headerSum_1 rfl hl (Nat.le_of_ble_eq_true rfl) rfl (fun ls hl => ?_)
  have hl : lv_has ls 3 [(1, .int (0 : Int32)), (0, .ref (sm_a v 62))] := hl
  refine lv_iconst (v := 0) hx hb d_Image_headerSum_2 (by decide) ?_
  refine lv_istore_n hx hb d_Image_headerSum_3 rfl hl (Nat.le_of_ble_eq_true rfl) rfl (fun ls hl => ?_)
  have hl : lv_has ls 3 [(2, .int (0 : Int32)), (1, .int (0 : Int32)), (0, .ref (sm_a v 62))] := hl
  exact lw_Image_headerSum_4 hC hr hlk hK M hG 1100 _ _ ls hl hf
abbrev w_Math_floorDiv : List Cond := Cond.code y_Math_floorDiv b_Math_floorDiv 3 (some .int) :: sm_AW
abbrev rm_Math_floorDiv : Room := { frames := 0, cells := 0, slots := 0, locals := 0 }
def f_Math_floorDiv (a0 : Int32) (a1 : Int32) : Option (Int32) :=
sm_nzd a1 (sm_nm (a0 / a1) fun x3_2 =>
(if 0 ≤ (a0 ^^^ a1) then
(some x3_2)
else
(if (x3_2 * a1) = a0 then
(some x3_2)
else
(some (x3_2 - (1 : Int32))))))
set_option maxHeartbeats 4000000 in
set_option maxRecDepth 100000 in
theorem c_Math_floorDiv {l : Launch} {v : sm_V} {o : sm_O} {M : sm_M} {a0 : Int32} {a1 : Int32} {r : Int32} (hf : f_Math_floorDiv a0 a1 = some r) : sm_Ri l y_Math_floorDiv w_Math_floorDiv rm_Math_floorDiv v [.int a0, .int a1] M o r  := by
  refine sm_met (cc := b_Math_floorDiv) (nL := 3) (ret := some .int) (by decide +kernel) rfl (Nat.le_of_ble_eq_true rfl) (fun p e s m args below meth c hC hr hlk hK hG ls hl => ?_)
  have hx := hC.1
  have hb := hC.2.1
  have hl : lv_has ls 3 [(0, .int a0), (1, .int a1)] := hl
  unfold f_Math_floorDiv at hf
  refine lv_iload_n hx hb d_Math_floorDiv_0 rfl (lv_at hl 0 rfl) ?_
  refine lv_iload_n hx hb d_Math_floorDiv_1 rfl (lv_at hl 1 rfl) ?_
  obtain ⟨h2_1, hf⟩ := sm_of_nz hf
  refine lv_idiv hx hb d_Math_floorDiv_2 (h2_1) ?_
  refine lv_topi (fun x3_2 ex3_2 => ?_)
  have hf := sm_of ex3_2 hf
  refine lv_istore_n hx hb d_Math_floorDiv_3 rfl hl (Nat.le_of_ble_eq_true rfl) rfl (fun ls hl => ?_)
  have hl : lv_has ls 3 [(2, .int x3_2), (0, .int a0), (1, .int a1)] := hl
  refine lv_iload_n hx hb d_Math_floorDiv_4 rfl (lv_at hl 1 rfl) ?_
  refine lv_iload_n hx hb d_Math_floorDiv_5 rfl (lv_at hl 2 rfl) ?_
  refine lv_ixor hx hb d_Math_floorDiv_6 ?_
  refine lv_if_ge hx hb d_Math_floorDiv_7 rfl (fun h7_3 => ?_) (fun h7_3 => ?_)
  · have hf := sm_t h7_3 hf
    refine lv_iload_n hx hb d_Math_floorDiv_21 rfl (lv_at hl 0 rfl) ?_
    obtain rfl := Option.some.inj hf
    exact sm_iret0 hC hr hlk d_Math_floorDiv_22
  · have hf := sm_f h7_3 hf
    refine lv_iload_n hx hb d_Math_floorDiv_10 rfl (lv_at hl 0 rfl) ?_
    refine lv_iload_n hx hb d_Math_floorDiv_11 rfl (lv_at hl 2 rfl) ?_
    refine lv_imul hx hb d_Math_floorDiv_12 ?_
    refine lv_iload_n hx hb d_Math_floorDiv_13 rfl (lv_at hl 1 rfl) ?_
    refine lv_icmp_eq hx hb d_Math_floorDiv_14 rfl (fun h14_4 => ?_) (fun h14_4 => ?_)
    · have hf := sm_t h14_4 hf
      refine lv_iload_n hx hb d_Math_floorDiv_21 rfl (lv_at hl 0 rfl) ?_
      obtain rfl := Option.some.inj hf
      exact sm_iret0 hC hr hlk d_Math_floorDiv_22
    · have hf := sm_f h14_4 hf
      refine lv_iload_n hx hb d_Math_floorDiv_17 rfl (lv_at hl 0 rfl) ?_
      refine lv_iconst (v := 1) hx hb d_Math_floorDiv_18 (by decide) ?_
      refine lv_isub hx hb d_Math_floorDiv_19 ?_
      obtain rfl := Option.some.inj hf
      exact sm_iret0 hC hr hlk d_Math_floorDiv_20
abbrev w_Fix_withNumber : List Cond := Cond.code y_Fix_withNumber b_Fix_withNumber 4 (some .int) :: sm_AW
abbrev rm_Fix_withNumber : Room := { frames := 0, cells := 0, slots := 0, locals := 0 }
def f_Fix_withNumber (a0 : Int32) (a1 : Int32) (a2 : Int32) : Option (Int32) :=
sm_nm (a0 &&& (((1 : Int32) <<< (a1 &&& 31)) - (1 : Int32))) fun x7_1 =>
(some (x7_1 ||| (a2 <<< (a1 &&& 31))))
set_option maxHeartbeats 4000000 in
set_option maxRecDepth 100000 in
theorem c_Fix_withNumber {l : Launch} {v : sm_V} {o : sm_O} {M : sm_M} {a0 : Int32} {a1 : Int32} {a2 : Int32} {r : Int32} (hf : f_Fix_withNumber a0 a1 a2 = some r) : sm_Ri l y_Fix_withNumber w_Fix_withNumber rm_Fix_withNumber v [.int a0, .int a1, .int a2] M o r  := by
  refine sm_met (cc := b_Fix_withNumber) (nL := 4) (ret := some .int) (plainFor_of_name (by decide)) rfl (Nat.le_of_ble_eq_true rfl) (fun p e s m args below meth c hC hr hlk hK hG ls hl => ?_)
  have hx := hC.1
  have hb := hC.2.1
  have hl : lv_has ls 4 [(0, .int a0), (1, .int a1), (2, .int a2)] := hl
  unfold f_Fix_withNumber at hf
  refine lv_iload_n hx hb d_Fix_withNumber_0 rfl (lv_at hl 0 rfl) ?_
  refine lv_iconst (v := 1) hx hb d_Fix_withNumber_1 (by decide) ?_
  refine lv_iload_n hx hb d_Fix_withNumber_2 rfl (lv_at hl 1 rfl) ?_
  refine lv_ishl hx hb d_Fix_withNumber_3 ?_
  refine lv_iconst (v := 1) hx hb d_Fix_withNumber_4 (by decide) ?_
  refine lv_isub hx hb d_Fix_withNumber_5 ?_
  refine lv_iand hx hb d_Fix_withNumber_6 ?_
  refine lv_topi (fun x7_1 ex7_1 => ?_)
  have hf := sm_of ex7_1 hf
  refine lv_istore_n hx hb d_Fix_withNumber_7 rfl hl (Nat.le_of_ble_eq_true rfl) rfl (fun ls hl => ?_)
  have hl : lv_has ls 4 [(3, .int x7_1), (0, .int a0), (1, .int a1), (2, .int a2)] := hl
  have hl : lv_has ls 4 [(3, .int x7_1), (1, .int a1), (2, .int a2)] := lv_sub hl [0, 2, 3] rfl
  refine lv_iload_n hx hb d_Fix_withNumber_8 rfl (lv_at hl 0 rfl) ?_
  refine lv_iload_n hx hb d_Fix_withNumber_9 rfl (lv_at hl 2 rfl) ?_
  refine lv_iload_n hx hb d_Fix_withNumber_10 rfl (lv_at hl 1 rfl) ?_
  refine lv_ishl hx hb d_Fix_withNumber_11 ?_
  refine lv_ior hx hb d_Fix_withNumber_12 ?_
  obtain rfl := Option.some.inj hf
  exact sm_iret0 hC hr hlk d_Fix_withNumber_13
theorem ca_Fix_17 {p : Program} {l : Launch} {e : Env} {R : Room} {s : State} {m : MethodId} {args : Array Value} {below : List Frame} {meth : Method} {c : Code} {H : Heap} {locs : List Loc} {cells slots : Nat} {Q : State → Prop} {cc : ByteArray} {nL pc : Nat} {ls : Array Slot} {rest : List Value} {w0 : Cond} {v : sm_V} {M : sm_M} {o : sm_O} {x0 : Int32} {x1 : Int32} {r : Int32} (hC : CallFix p m c cc nL s args (w0 :: sm_AW) R_Fix) (hK : sm_K v s) (hG : sm_G v M o s H locs) (hM : sm_Ri l y_Math_floorDiv w_Math_floorDiv rm_Math_floorDiv v [.int x0, .int x1] M o r) (hsz : ls.size = nL) (hR : rm_Math_floorDiv.frames + 1 ≤ R.frames ∧ 8 + (3 + 11) + rm_Math_floorDiv.locals ≤ R.locals) (hcs : cells + 0 ≤ R.cells ∧ slots + 0 ≤ R.slots) (hW : (rest.map fun v => v.category).sum ≤ 8) (hdg : decode cc pc = .ok (.invokestatic 17, 3))
    (kk : W p l e R s m args below meth c H locs cells slots Q (F0 m (pc + 3) ls (.int r :: rest))) : W p l e R s m args below meth c H locs cells slots Q (F0 m pc ls (.int x1 :: .int x0 :: rest)) :=
  sm_calli0 (va_runS (As := [.int x0, .int x1]) (rest := rest) hC hM (va_cwS 2 hC.2.2.2.2 (sm_good (sm_inT aw_556 aw_557 aw_15 aw_558)) rfl rfl rfl (by decide +kernel) hR) (sm_preS hK hG) rfl rfl hsz rfl (lv_room hW) hdg hcs) kk
theorem ca_Fix_23 {p : Program} {l : Launch} {e : Env} {R : Room} {s : State} {m : MethodId} {args : Array Value} {below : List Frame} {meth : Method} {c : Code} {H : Heap} {locs : List Loc} {cells slots : Nat} {Q : State → Prop} {cc : ByteArray} {nL pc : Nat} {ls : Array Slot} {rest : List Value} {w0 : Cond} {v : sm_V} {M : sm_M} {o : sm_O} {x0 : Int32} {x1 : Int32} {x2 : Int32} {r : Int32} (hC : CallFix p m c cc nL s args (w0 :: sm_AW) R_Fix) (hK : sm_K v s) (hG : sm_G v M o s H locs) (hM : sm_Ri l y_Fix_withNumber w_Fix_withNumber rm_Fix_withNumber v [.int x0, .int x1, .int x2] M o r) (hsz : ls.size = nL) (hR : rm_Fix_withNumber.frames + 1 ≤ R.frames ∧ 8 + (4 + 11) + rm_Fix_withNumber.locals ≤ R.locals) (hcs : cells + 0 ≤ R.cells ∧ slots + 0 ≤ R.slots) (hW : (rest.map fun v => v.category).sum ≤ 8) (hdg : decode cc pc = .ok (.invokestatic 23, 3))
    (kk : W p l e R s m args below meth c H locs cells slots Q (F0 m (pc + 3) ls (.int r :: rest))) : W p l e R s m args below meth c H locs cells slots Q (F0 m pc ls (.int x2 :: .int x1 :: .int x0 :: rest)) :=
  sm_calli0 (va_runS (As := [.int x0, .int x1, .int x2]) (rest := rest) hC hM (cwS 3 hC.2.2.2.2 (sm_good (sm_inS aw_559 aw_560 aw_14 aw_561)) rfl rfl rfl (by decide +kernel) hR) (sm_preS hK hG) rfl rfl hsz rfl (lv_room hW) hdg hcs) kk
abbrev w_Fix_fixed : List Cond := Cond.code y_Fix_fixed b_Fix_fixed 4 (some .int) :: sm_AW
abbrev rm_Fix_fixed : Room := { frames := 1, cells := 0, slots := 0, locals := 23 }
def f_Fix_fixed (a0 : Int32) (a1 : Int32) (a2 : Int32) (a3 : Int32) : Option (Int32) :=
(if a0 = 0 then
(some a2)
else
(if a0 = 1 then
sm_b1 (f_Math_floorDiv (a2 + (2048 : Int32)) (4096 : Int32)) fun r45_4 =>
sm_b1 (f_Fix_withNumber a1 (12 : Int32) r45_4) fun r48_7 =>
(some r48_7)
else
(if a0 = 2 then
sm_b1 (f_Fix_withNumber a1 (20 : Int32) a2) fun r56_11 =>
(some r56_11)
else
(if a0 = 3 then
sm_b1 (f_Fix_withNumber a1 (20 : Int32) ((a2 - a3) / (2 : Int32))) fun r68_15 =>
(some r68_15)
else
sm_b1 (f_Fix_withNumber a1 (10 : Int32) ((a2 - a3) / (2 : Int32))) fun r80_18 =>
(some r80_18)))))
set_option maxHeartbeats 4000000 in
set_option maxRecDepth 100000 in
theorem c_Fix_fixed {l : Launch} {v : sm_V} {o : sm_O} {M : sm_M} {a0 : Int32} {a1 : Int32} {a2 : Int32} {a3 : Int32} {r : Int32} (hf : f_Fix_fixed a0 a1 a2 a3 = some r) : sm_Ri l y_Fix_fixed w_Fix_fixed rm_Fix_fixed v [.int a0, .int a1, .int a2, .int a3] M o r  := by
  refine sm_met (cc := b_Fix_fixed) (nL := 4) (ret := some .int) (plainFor_of_name (by decide)) rfl (Nat.le_of_ble_eq_true rfl) (fun p e s m args below meth c hC hr hlk hK hG ls hl => ?_)
  have hx := hC.1
  have hb := hC.2.1
  have hl : lv_has ls 4 [(0, .int a0), (1, .int a1), (2, .int a2), (3, .int a3)] := hl
  unfold f_Fix_fixed at hf
  refine lv_iload_n hx hb d_Fix_fixed_0 rfl (lv_at hl 0 rfl) ?_
  by_cases h1_1 : a0 = 0
  · have hf := sm_t h1_1 hf
    refine lv_tableIn (tgt := 32) hx hb d_Fix_fixed_1 (by rw [h1_1]; decide) (by rw [h1_1]; decide) (by rw [h1_1]; rfl) rfl ?_
    refine lv_iload_n hx hb d_Fix_fixed_32 rfl (lv_at hl 2 rfl) ?_
    obtain rfl := Option.some.inj hf
    exact sm_iret0 hC hr hlk d_Fix_fixed_33
  have hf := sm_f h1_1 hf
  by_cases h1_2 : a0 = 1
  · have hf := sm_t h1_2 hf
    refine lv_tableIn (tgt := 34) hx hb d_Fix_fixed_1 (by rw [h1_2]; decide) (by rw [h1_2]; decide) (by rw [h1_2]; rfl) rfl ?_
    refine lv_iload_n hx hb d_Fix_fixed_34 rfl (lv_at hl 1 rfl) ?_
    refine lv_bipush (v := 12) hx hb d_Fix_fixed_35 (by decide) ?_
    refine lv_iload_n hx hb d_Fix_fixed_37 rfl (lv_at hl 2 rfl) ?_
    refine lv_sipush (v := 2048) hx hb d_Fix_fixed_38 (by decide) ?_
    refine lv_iadd hx hb d_Fix_fixed_41 ?_
    refine lv_sipush (v := 4096) hx hb d_Fix_fixed_42 (by decide) ?_
    obtain ⟨r45_4, hc45_3, hf⟩ := sm_of_b1 hf
    refine ca_Fix_17 hC hK hG (c_Math_floorDiv hc45_3) hl.1 ⟨Nat.le_of_ble_eq_true rfl, Nat.le_of_ble_eq_true rfl⟩ ⟨Nat.zero_le _, Nat.zero_le _⟩ (Nat.le_of_ble_eq_true rfl) d_Fix_fixed_45 ?_
    obtain ⟨r48_7, hc48_6, hf⟩ := sm_of_b1 hf
    refine ca_Fix_23 hC hK hG (c_Fix_withNumber hc48_6) hl.1 ⟨Nat.le_of_ble_eq_true rfl, Nat.le_of_ble_eq_true rfl⟩ ⟨Nat.zero_le _, Nat.zero_le _⟩ (Nat.le_of_ble_eq_true rfl) d_Fix_fixed_48 ?_
    obtain rfl := Option.some.inj hf
    exact sm_iret0 hC hr hlk d_Fix_fixed_51
  have hf := sm_f h1_2 hf
  by_cases h1_9 : a0 = 2
  · have hf := sm_t h1_9 hf
    refine lv_tableIn (tgt := 52) hx hb d_Fix_fixed_1 (by rw [h1_9]; decide) (by rw [h1_9]; decide) (by rw [h1_9]; rfl) rfl ?_
    refine lv_iload_n hx hb d_Fix_fixed_52 rfl (lv_at hl 1 rfl) ?_
    refine lv_bipush (v := 20) hx hb d_Fix_fixed_53 (by decide) ?_
    refine lv_iload_n hx hb d_Fix_fixed_55 rfl (lv_at hl 2 rfl) ?_
    obtain ⟨r56_11, hc56_10, hf⟩ := sm_of_b1 hf
    refine ca_Fix_23 hC hK hG (c_Fix_withNumber hc56_10) hl.1 ⟨Nat.le_of_ble_eq_true rfl, Nat.le_of_ble_eq_true rfl⟩ ⟨Nat.zero_le _, Nat.zero_le _⟩ (Nat.le_of_ble_eq_true rfl) d_Fix_fixed_56 ?_
    obtain rfl := Option.some.inj hf
    exact sm_iret0 hC hr hlk d_Fix_fixed_59
  have hf := sm_f h1_9 hf
  by_cases h1_13 : a0 = 3
  · have hf := sm_t h1_13 hf
    refine lv_tableIn (tgt := 60) hx hb d_Fix_fixed_1 (by rw [h1_13]; decide) (by rw [h1_13]; decide) (by rw [h1_13]; rfl) rfl ?_
    refine lv_iload_n hx hb d_Fix_fixed_60 rfl (lv_at hl 1 rfl) ?_
    refine lv_bipush (v := 20) hx hb d_Fix_fixed_61 (by decide) ?_
    refine lv_iload_n hx hb d_Fix_fixed_63 rfl (lv_at hl 2 rfl) ?_
    refine lv_iload_n hx hb d_Fix_fixed_64 rfl (lv_at hl 3 rfl) ?_
    refine lv_isub hx hb d_Fix_fixed_65 ?_
    refine lv_iconst (v := 2) hx hb d_Fix_fixed_66 (by decide) ?_
    refine lv_idiv hx hb d_Fix_fixed_67 (by decide) ?_
    obtain ⟨r68_15, hc68_14, hf⟩ := sm_of_b1 hf
    refine ca_Fix_23 hC hK hG (c_Fix_withNumber hc68_14) hl.1 ⟨Nat.le_of_ble_eq_true rfl, Nat.le_of_ble_eq_true rfl⟩ ⟨Nat.zero_le _, Nat.zero_le _⟩ (Nat.le_of_ble_eq_true rfl) d_Fix_fixed_68 ?_
    obtain rfl := Option.some.inj hf
    exact sm_iret0 hC hr hlk d_Fix_fixed_71
  have hf := sm_f h1_13 hf
  refine lv_tableOut (tgt := 72) hx hb d_Fix_fixed_1 (by have := lv_neT (a := 0) h1_1 rfl; have := lv_neT (a := 1) h1_2 rfl; have := lv_neT (a := 2) h1_9 rfl; have := lv_neT (a := 3) h1_13 rfl; omega) rfl ?_
  refine lv_iload_n hx hb d_Fix_fixed_72 rfl (lv_at hl 1 rfl) ?_
  refine lv_bipush (v := 10) hx hb d_Fix_fixed_73 (by decide) ?_
  refine lv_iload_n hx hb d_Fix_fixed_75 rfl (lv_at hl 2 rfl) ?_
  refine lv_iload_n hx hb d_Fix_fixed_76 rfl (lv_at hl 3 rfl) ?_
  refine lv_isub hx hb d_Fix_fixed_77 ?_
  refine lv_iconst (v := 2) hx hb d_Fix_fixed_78 (by decide) ?_
  refine lv_idiv hx hb d_Fix_fixed_79 (by decide) ?_
  obtain ⟨r80_18, hc80_17, hf⟩ := sm_of_b1 hf
  refine ca_Fix_23 hC hK hG (c_Fix_withNumber hc80_17) hl.1 ⟨Nat.le_of_ble_eq_true rfl, Nat.le_of_ble_eq_true rfl⟩ ⟨Nat.zero_le _, Nat.zero_le _⟩ (Nat.le_of_ble_eq_true rfl) d_Fix_fixed_80 ?_
  obtain rfl := Option.some.inj hf
  exact sm_iret0 hC hr hlk d_Fix_fixed_83
abbrev w_Instr_opOf : List Cond := Cond.code y_Instr_opOf b_Instr_opOf 1 (some .int) :: sm_AW
abbrev rm_Instr_opOf : Room := { frames := 0, cells := 0, slots := 0, locals := 0 }
def f_Instr_opOf (a0 : Int32) : Option (Int32) :=
(some (a0 &&& (31 : Int32)))
set_option maxHeartbeats 4000000 in
set_option maxRecDepth 100000 in
theorem c_Instr_opOf {l : Launch} {v : sm_V} {o : sm_O} {M : sm_M} {a0 : Int32} {r : Int32} (hf : f_Instr_opOf a0 = some r) : sm_Ri l y_Instr_opOf w_Instr_opOf rm_Instr_opOf v [.int a0] M o r  := by
  refine sm_met (cc := b_Instr_opOf) (nL := 1) (ret := some .int) (plainFor_of_name (by decide)) rfl (Nat.le_of_ble_eq_true rfl) (fun p e s m args below meth c hC hr hlk hK hG ls hl => ?_)
  have hx := hC.1
  have hb := hC.2.1
  have hl : lv_has ls 1 [(0, .int a0)] := hl
  unfold f_Instr_opOf at hf
  refine lv_iload_n hx hb d_Instr_opOf_0 rfl (lv_at hl 0 rfl) ?_
  refine lv_bipush (v := 31) hx hb d_Instr_opOf_1 (by decide) ?_
  refine lv_iand hx hb d_Instr_opOf_3 ?_
  obtain rfl := Option.some.inj hf
  exact sm_iret0 hC hr hlk d_Instr_opOf_4
abbrev w_Instr_aOf : List Cond := Cond.code y_Instr_aOf b_Instr_aOf 1 (some .int) :: sm_AW
abbrev rm_Instr_aOf : Room := { frames := 0, cells := 0, slots := 0, locals := 0 }
def f_Instr_aOf (a0 : Int32) : Option (Int32) :=
(some ((a0 >>> ((5 : Int32) &&& 31)) &&& (31 : Int32)))
set_option maxHeartbeats 4000000 in
set_option maxRecDepth 100000 in
theorem c_Instr_aOf {l : Launch} {v : sm_V} {o : sm_O} {M : sm_M} {a0 : Int32} {r : Int32} (hf : f_Instr_aOf a0 = some r) : sm_Ri l y_Instr_aOf w_Instr_aOf rm_Instr_aOf v [.int a0] M o r  := by
  refine sm_met (cc := b_Instr_aOf) (nL := 1) (ret := some .int) (plainFor_of_name (by decide)) rfl (Nat.le_of_ble_eq_true rfl) (fun p e s m args below meth c hC hr hlk hK hG ls hl => ?_)
  have hx := hC.1
  have hb := hC.2.1
  have hl : lv_has ls 1 [(0, .int a0)] := hl
  unfold f_Instr_aOf at hf
  refine lv_iload_n hx hb d_Instr_aOf_0 rfl (lv_at hl 0 rfl) ?_
  refine lv_iconst (v := 5) hx hb d_Instr_aOf_1 (by decide) ?_
  refine lv_ishr hx hb d_Instr_aOf_2 ?_
  refine lv_bipush (v := 31) hx hb d_Instr_aOf_3 (by decide) ?_
  refine lv_iand hx hb d_Instr_aOf_5 ?_
  obtain rfl := Option.some.inj hf
  exact sm_iret0 hC hr hlk d_Instr_aOf_6
abbrev w_Instr_bOf : List Cond := Cond.code y_Instr_bOf b_Instr_bOf 1 (some .int) :: sm_AW
abbrev rm_Instr_bOf : Room := { frames := 0, cells := 0, slots := 0, locals := 0 }
def f_Instr_bOf (a0 : Int32) : Option (Int32) :=
(some ((a0 >>> ((10 : Int32) &&& 31)) &&& (31 : Int32)))
set_option maxHeartbeats 4000000 in
set_option maxRecDepth 100000 in
theorem c_Instr_bOf {l : Launch} {v : sm_V} {o : sm_O} {M : sm_M} {a0 : Int32} {r : Int32} (hf : f_Instr_bOf a0 = some r) : sm_Ri l y_Instr_bOf w_Instr_bOf rm_Instr_bOf v [.int a0] M o r  := by
  refine sm_met (cc := b_Instr_bOf) (nL := 1) (ret := some .int) (plainFor_of_name (by decide)) rfl (Nat.le_of_ble_eq_true rfl) (fun p e s m args below meth c hC hr hlk hK hG ls hl => ?_)
  have hx := hC.1
  have hb := hC.2.1
  have hl : lv_has ls 1 [(0, .int a0)] := hl
  unfold f_Instr_bOf at hf
  refine lv_iload_n hx hb d_Instr_bOf_0 rfl (lv_at hl 0 rfl) ?_
  refine lv_bipush (v := 10) hx hb d_Instr_bOf_1 (by decide) ?_
  refine lv_ishr hx hb d_Instr_bOf_3 ?_
  refine lv_bipush (v := 31) hx hb d_Instr_bOf_4 (by decide) ?_
  refine lv_iand hx hb d_Instr_bOf_6 ?_
  obtain rfl := Option.some.inj hf
  exact sm_iret0 hC hr hlk d_Instr_bOf_7
theorem ca_Instr_29 {p : Program} {l : Launch} {e : Env} {R : Room} {s : State} {m : MethodId} {args : Array Value} {below : List Frame} {meth : Method} {c : Code} {H : Heap} {locs : List Loc} {cells slots : Nat} {Q : State → Prop} {cc : ByteArray} {nL pc : Nat} {ls : Array Slot} {rest : List Value} {w0 : Cond} {v : sm_V} {M : sm_M} {o : sm_O} {x0 : Int32} {r : Int32} (hC : CallFix p m c cc nL s args (w0 :: sm_AW) R_Instr) (hK : sm_K v s) (hG : sm_G v M o s H locs) (hM : sm_Ri l y_Instr_opOf w_Instr_opOf rm_Instr_opOf v [.int x0] M o r) (hsz : ls.size = nL) (hR : rm_Instr_opOf.frames + 1 ≤ R.frames ∧ 8 + (1 + 11) + rm_Instr_opOf.locals ≤ R.locals) (hcs : cells + 0 ≤ R.cells ∧ slots + 0 ≤ R.slots) (hW : (rest.map fun v => v.category).sum ≤ 8) (hdg : decode cc pc = .ok (.invokestatic 29, 3))
    (kk : W p l e R s m args below meth c H locs cells slots Q (F0 m (pc + 3) ls (.int r :: rest))) : W p l e R s m args below meth c H locs cells slots Q (F0 m pc ls (.int x0 :: rest)) :=
  sm_calli0 (va_runS (As := [.int x0]) (rest := rest) hC hM (cwS 1 hC.2.2.2.2 (sm_good (sm_inS aw_613 aw_602 aw_8 aw_603)) rfl rfl rfl (by decide +kernel) hR) (sm_preS hK hG) rfl rfl hsz rfl (lv_room hW) hdg hcs) kk
abbrev w_Instr_numberOf : List Cond := Cond.code y_Instr_numberOf b_Instr_numberOf 1 (some .int) :: sm_AW
abbrev rm_Instr_numberOf : Room := { frames := 1, cells := 0, slots := 0, locals := 20 }
def f_Instr_numberOf (a0 : Int32) : Option (Int32) :=
sm_b1 (f_Instr_opOf a0) fun r2_2 =>
sm_b1 (f_Instr_numberAt r2_2) fun r5_5 =>
(some (a0 >>> (r5_5 &&& 31)))
set_option maxHeartbeats 4000000 in
set_option maxRecDepth 100000 in
theorem c_Instr_numberOf {l : Launch} {v : sm_V} {o : sm_O} {M : sm_M} {a0 : Int32} {r : Int32} (hf : f_Instr_numberOf a0 = some r) : sm_Ri l y_Instr_numberOf w_Instr_numberOf rm_Instr_numberOf v [.int a0] M o r  := by
  refine sm_met (cc := b_Instr_numberOf) (nL := 1) (ret := some .int) (plainFor_of_name (by decide)) rfl (Nat.le_of_ble_eq_true rfl) (fun p e s m args below meth c hC hr hlk hK hG ls hl => ?_)
  have hx := hC.1
  have hb := hC.2.1
  have hl : lv_has ls 1 [(0, .int a0)] := hl
  unfold f_Instr_numberOf at hf
  refine lv_iload_n hx hb d_Instr_numberOf_0 rfl (lv_at hl 0 rfl) ?_
  refine lv_iload_n hx hb d_Instr_numberOf_1 rfl (lv_at hl 0 rfl) ?_
  obtain ⟨r2_2, hc2_1, hf⟩ := sm_of_b1 hf
  refine ca_Instr_29 hC hK hG (c_Instr_opOf hc2_1) hl.1 ⟨Nat.le_of_ble_eq_true rfl, Nat.le_of_ble_eq_true rfl⟩ ⟨Nat.zero_le _, Nat.zero_le _⟩ (Nat.le_of_ble_eq_true rfl) d_Instr_numberOf_2 ?_
  obtain ⟨r5_5, hc5_4, hf⟩ := sm_of_b1 hf
  refine ca_Instr_22 hC hK hG (c_Instr_numberAt hc5_4) hl.1 ⟨Nat.le_of_ble_eq_true rfl, Nat.le_of_ble_eq_true rfl⟩ ⟨Nat.zero_le _, Nat.zero_le _⟩ (Nat.le_of_ble_eq_true rfl) d_Instr_numberOf_5 ?_
  refine lv_ishr hx hb d_Instr_numberOf_8 ?_
  obtain rfl := Option.some.inj hf
  exact sm_iret0 hC hr hlk d_Instr_numberOf_9
abbrev w_Instr_registerCOf : List Cond := Cond.code y_Instr_registerCOf b_Instr_registerCOf 1 (some .int) :: sm_AW
abbrev rm_Instr_registerCOf : Room := { frames := 0, cells := 0, slots := 0, locals := 0 }
def f_Instr_registerCOf (a0 : Int32) : Option (Int32) :=
(some ((a0 >>> ((15 : Int32) &&& 31)) &&& (31 : Int32)))
set_option maxHeartbeats 4000000 in
set_option maxRecDepth 100000 in
theorem c_Instr_registerCOf {l : Launch} {v : sm_V} {o : sm_O} {M : sm_M} {a0 : Int32} {r : Int32} (hf : f_Instr_registerCOf a0 = some r) : sm_Ri l y_Instr_registerCOf w_Instr_registerCOf rm_Instr_registerCOf v [.int a0] M o r  := by
  refine sm_met (cc := b_Instr_registerCOf) (nL := 1) (ret := some .int) (plainFor_of_name (by decide)) rfl (Nat.le_of_ble_eq_true rfl) (fun p e s m args below meth c hC hr hlk hK hG ls hl => ?_)
  have hx := hC.1
  have hb := hC.2.1
  have hl : lv_has ls 1 [(0, .int a0)] := hl
  unfold f_Instr_registerCOf at hf
  refine lv_iload_n hx hb d_Instr_registerCOf_0 rfl (lv_at hl 0 rfl) ?_
  refine lv_bipush (v := 15) hx hb d_Instr_registerCOf_1 (by decide) ?_
  refine lv_ishr hx hb d_Instr_registerCOf_3 ?_
  refine lv_bipush (v := 31) hx hb d_Instr_registerCOf_4 (by decide) ?_
  refine lv_iand hx hb d_Instr_registerCOf_6 ?_
  obtain rfl := Option.some.inj hf
  exact sm_iret0 hC hr hlk d_Instr_registerCOf_7
abbrev w_Math_min : List Cond := Cond.code y_Math_min b_Math_min 2 (some .int) :: sm_AW
abbrev rm_Math_min : Room := { frames := 0, cells := 0, slots := 0, locals := 0 }
def f_Math_min (a0 : Int32) (a1 : Int32) : Option (Int32) :=
(if a1 < a0 then
(some a1)
else
(some a0))
set_option maxHeartbeats 4000000 in
set_option maxRecDepth 100000 in
theorem c_Math_min {l : Launch} {v : sm_V} {o : sm_O} {M : sm_M} {a0 : Int32} {a1 : Int32} {r : Int32} (hf : f_Math_min a0 a1 = some r) : sm_Ri l y_Math_min w_Math_min rm_Math_min v [.int a0, .int a1] M o r  := by
  refine sm_met (cc := b_Math_min) (nL := 2) (ret := some .int) (by decide +kernel) rfl (Nat.le_of_ble_eq_true rfl) (fun p e s m args below meth c hC hr hlk hK hG ls hl => ?_)
  have hx := hC.1
  have hb := hC.2.1
  have hl : lv_has ls 2 [(0, .int a0), (1, .int a1)] := hl
  unfold f_Math_min at hf
  refine lv_iload_n hx hb d_Math_min_0 rfl (lv_at hl 0 rfl) ?_
  refine lv_iload_n hx hb d_Math_min_1 rfl (lv_at hl 1 rfl) ?_
  refine lv_icmp_gt hx hb d_Math_min_2 rfl (fun h2_1 => ?_) (fun h2_1 => ?_)
  · have hf := sm_t h2_1 hf
    refine lv_iload_n hx hb d_Math_min_9 rfl (lv_at hl 1 rfl) ?_
    obtain rfl := Option.some.inj hf
    exact sm_iret0 hC hr hlk d_Math_min_10
  · have hf := sm_f h2_1 hf
    refine lv_iload_n hx hb d_Math_min_5 rfl (lv_at hl 0 rfl) ?_
    refine lv_goto hx hb d_Math_min_6 rfl ?_
    obtain rfl := Option.some.inj hf
    exact sm_iret0 hC hr hlk d_Math_min_10
