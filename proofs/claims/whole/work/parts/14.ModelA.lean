abbrev w_Model_thrown : List Cond := Cond.code y_Model_thrown b_Model_thrown 1 (some .int) :: sm_AW
abbrev rm_Model_thrown : Room := { frames := 0, cells := 0, slots := 0, locals := 0 }
def f_Model_thrown (M : sm_M) : Option (Int32) :=
(some (M 68 0))
set_option maxHeartbeats 4000000 in
set_option maxRecDepth 100000 in
theorem c_Model_thrown {l : Launch} {v : sm_V} {o : sm_O} {M : sm_M} {r : Int32} (hf : f_Model_thrown M = some r) : sm_Ri l y_Model_thrown w_Model_thrown rm_Model_thrown v [.ref (sm_a v 68)] M o r  := by
  refine sm_met (cc := b_Model_thrown) (nL := 1) (ret := some .int) (plainFor_of_name (by decide)) rfl (Nat.le_of_ble_eq_true rfl) (fun p e s m args below meth c hC hr hlk hK hG ls hl => ?_)
  have hx := hC.1
  have hb := hC.2.1
  have hl : lv_has ls 1 [(0, .ref (sm_a v 68))] := hl
  unfold f_Model_thrown at hf
  refine lv_aload_n hx hb d_Model_thrown_0 rfl (lv_at hl 0 rfl) ?_
  refine gf_Model_74 hC hK hG d_Model_thrown_1 ?_
  obtain rfl := Option.some.inj hf
  exact sm_iret0 hC hr hlk d_Model_thrown_4
abbrev w_Model_within : List Cond := Cond.code y_Model_within b_Model_within 3 (some .boolean) :: sm_AW
abbrev rm_Model_within : Room := { frames := 0, cells := 0, slots := 0, locals := 0 }
def f_Model_within (a0 : Int32) (a1 : Int32) (a2 : Int32) : Option (Int32) :=
(if a0 < a1 then
(some (0 : Int32))
else
(if a2 < a0 then
(some (0 : Int32))
else
(some (1 : Int32))))
set_option maxHeartbeats 4000000 in
set_option maxRecDepth 100000 in
theorem c_Model_within {l : Launch} {v : sm_V} {o : sm_O} {M : sm_M} {a0 : Int32} {a1 : Int32} {a2 : Int32} {r : Int32} (hf : f_Model_within a0 a1 a2 = some r) : sm_Ri l y_Model_within w_Model_within rm_Model_within v [.int a0, .int a1, .int a2] M o r  := by
  refine sm_met (cc := b_Model_within) (nL := 3) (ret := some .boolean) (plainFor_of_name (by decide)) rfl (Nat.le_of_ble_eq_true rfl) (fun p e s m args below meth c hC hr hlk hK hG ls hl => ?_)
  have hx := hC.1
  have hb := hC.2.1
  have hl : lv_has ls 3 [(0, .int a0), (1, .int a1), (2, .int a2)] := hl
  unfold f_Model_within at hf
  refine lv_iload_n hx hb d_Model_within_0 rfl (lv_at hl 0 rfl) ?_
  refine lv_iload_n hx hb d_Model_within_1 rfl (lv_at hl 1 rfl) ?_
  refine lv_icmp_lt hx hb d_Model_within_2 rfl (fun h2_1 => ?_) (fun h2_1 => ?_)
  · have hf := sm_t h2_1 hf
    refine lv_iconst (v := 0) hx hb d_Model_within_14 (by decide) ?_
    obtain rfl := Option.some.inj hf
    exact sm_zret0 hC hr rfl hlk d_Model_within_15
  · have hf := sm_f h2_1 hf
    refine lv_iload_n hx hb d_Model_within_5 rfl (lv_at hl 0 rfl) ?_
    refine lv_iload_n hx hb d_Model_within_6 rfl (lv_at hl 2 rfl) ?_
    refine lv_icmp_gt hx hb d_Model_within_7 rfl (fun h7_2 => ?_) (fun h7_2 => ?_)
    · have hf := sm_t h7_2 hf
      refine lv_iconst (v := 0) hx hb d_Model_within_14 (by decide) ?_
      obtain rfl := Option.some.inj hf
      exact sm_zret0 hC hr rfl hlk d_Model_within_15
    · have hf := sm_f h7_2 hf
      refine lv_iconst (v := 1) hx hb d_Model_within_10 (by decide) ?_
      refine lv_goto hx hb d_Model_within_11 rfl ?_
      obtain rfl := Option.some.inj hf
      exact sm_zret0 hC hr rfl hlk d_Model_within_15
abbrev w_Model_placeOf : List Cond := Cond.code y_Model_placeOf b_Model_placeOf 1 (some .int) :: sm_AW
abbrev rm_Model_placeOf : Room := { frames := 0, cells := 0, slots := 0, locals := 0 }
def f_Model_placeOf (a0 : Int32) : Option (Int32) :=
(if a0 = (16 : Int32) then
(some (10 : Int32))
else
(if a0 = (1 : Int32) then
(some (12 : Int32))
else
(if a0 < (3 : Int32) then
(if a0 = 0 then
(some (32 : Int32))
else
(if a0 = (18 : Int32) then
(some (32 : Int32))
else
(some (20 : Int32))))
else
(if (10 : Int32) < a0 then
(if a0 = 0 then
(some (32 : Int32))
else
(if a0 = (18 : Int32) then
(some (32 : Int32))
else
(some (20 : Int32))))
else
(some (15 : Int32))))))
set_option maxHeartbeats 4000000 in
set_option maxRecDepth 100000 in
theorem c_Model_placeOf {l : Launch} {v : sm_V} {o : sm_O} {M : sm_M} {a0 : Int32} {r : Int32} (hf : f_Model_placeOf a0 = some r) : sm_Ri l y_Model_placeOf w_Model_placeOf rm_Model_placeOf v [.int a0] M o r  := by
  refine sm_met (cc := b_Model_placeOf) (nL := 1) (ret := some .int) (plainFor_of_name (by decide)) rfl (Nat.le_of_ble_eq_true rfl) (fun p e s m args below meth c hC hr hlk hK hG ls hl => ?_)
  have hx := hC.1
  have hb := hC.2.1
  have hl : lv_has ls 1 [(0, .int a0)] := hl
  unfold f_Model_placeOf at hf
  refine lv_iload_n hx hb d_Model_placeOf_0 rfl (lv_at hl 0 rfl) ?_
  refine lv_bipush (v := 16) hx hb d_Model_placeOf_1 (by decide) ?_
  refine lv_icmp_ne hx hb d_Model_placeOf_3 rfl (fun h3_1 => ?_) (fun h3_1 => ?_)
  · have hf := sm_f h3_1 hf
    refine lv_iload_n hx hb d_Model_placeOf_11 rfl (lv_at hl 0 rfl) ?_
    refine lv_iconst (v := 1) hx hb d_Model_placeOf_12 (by decide) ?_
    refine lv_icmp_ne hx hb d_Model_placeOf_13 rfl (fun h13_2 => ?_) (fun h13_2 => ?_)
    · have hf := sm_f h13_2 hf
      refine lv_iload_n hx hb d_Model_placeOf_21 rfl (lv_at hl 0 rfl) ?_
      refine lv_iconst (v := 3) hx hb d_Model_placeOf_22 (by decide) ?_
      refine lv_icmp_lt hx hb d_Model_placeOf_23 rfl (fun h23_3 => ?_) (fun h23_3 => ?_)
      · have hf := sm_t h23_3 hf
        refine lv_iload_n hx hb d_Model_placeOf_37 rfl (lv_at hl 0 rfl) ?_
        refine lv_if_eq hx hb d_Model_placeOf_38 rfl (fun h38_4 => ?_) (fun h38_4 => ?_)
        · have hf := sm_t h38_4 hf
          refine lv_bipush (v := 32) hx hb d_Model_placeOf_47 (by decide) ?_
          refine lv_goto hx hb d_Model_placeOf_49 rfl ?_
          obtain rfl := Option.some.inj hf
          exact sm_iret0 hC hr hlk d_Model_placeOf_54
        · have hf := sm_f h38_4 hf
          refine lv_iload_n hx hb d_Model_placeOf_41 rfl (lv_at hl 0 rfl) ?_
          refine lv_bipush (v := 18) hx hb d_Model_placeOf_42 (by decide) ?_
          refine lv_icmp_ne hx hb d_Model_placeOf_44 rfl (fun h44_5 => ?_) (fun h44_5 => ?_)
          · have hf := sm_f h44_5 hf
            refine lv_bipush (v := 20) hx hb d_Model_placeOf_52 (by decide) ?_
            obtain rfl := Option.some.inj hf
            exact sm_iret0 hC hr hlk d_Model_placeOf_54
          · have hf := sm_t h44_5 hf
            refine lv_bipush (v := 32) hx hb d_Model_placeOf_47 (by decide) ?_
            refine lv_goto hx hb d_Model_placeOf_49 rfl ?_
            obtain rfl := Option.some.inj hf
            exact sm_iret0 hC hr hlk d_Model_placeOf_54
      · have hf := sm_f h23_3 hf
        refine lv_iload_n hx hb d_Model_placeOf_26 rfl (lv_at hl 0 rfl) ?_
        refine lv_bipush (v := 10) hx hb d_Model_placeOf_27 (by decide) ?_
        refine lv_icmp_gt hx hb d_Model_placeOf_29 rfl (fun h29_6 => ?_) (fun h29_6 => ?_)
        · have hf := sm_t h29_6 hf
          refine lv_iload_n hx hb d_Model_placeOf_37 rfl (lv_at hl 0 rfl) ?_
          refine lv_if_eq hx hb d_Model_placeOf_38 rfl (fun h38_7 => ?_) (fun h38_7 => ?_)
          · have hf := sm_t h38_7 hf
            refine lv_bipush (v := 32) hx hb d_Model_placeOf_47 (by decide) ?_
            refine lv_goto hx hb d_Model_placeOf_49 rfl ?_
            obtain rfl := Option.some.inj hf
            exact sm_iret0 hC hr hlk d_Model_placeOf_54
          · have hf := sm_f h38_7 hf
            refine lv_iload_n hx hb d_Model_placeOf_41 rfl (lv_at hl 0 rfl) ?_
            refine lv_bipush (v := 18) hx hb d_Model_placeOf_42 (by decide) ?_
            refine lv_icmp_ne hx hb d_Model_placeOf_44 rfl (fun h44_8 => ?_) (fun h44_8 => ?_)
            · have hf := sm_f h44_8 hf
              refine lv_bipush (v := 20) hx hb d_Model_placeOf_52 (by decide) ?_
              obtain rfl := Option.some.inj hf
              exact sm_iret0 hC hr hlk d_Model_placeOf_54
            · have hf := sm_t h44_8 hf
              refine lv_bipush (v := 32) hx hb d_Model_placeOf_47 (by decide) ?_
              refine lv_goto hx hb d_Model_placeOf_49 rfl ?_
              obtain rfl := Option.some.inj hf
              exact sm_iret0 hC hr hlk d_Model_placeOf_54
        · have hf := sm_f h29_6 hf
          refine lv_bipush (v := 15) hx hb d_Model_placeOf_32 (by decide) ?_
          refine lv_goto hx hb d_Model_placeOf_34 rfl ?_
          obtain rfl := Option.some.inj hf
          exact sm_iret0 hC hr hlk d_Model_placeOf_54
    · have hf := sm_t h13_2 hf
      refine lv_bipush (v := 12) hx hb d_Model_placeOf_16 (by decide) ?_
      refine lv_goto hx hb d_Model_placeOf_18 rfl ?_
      obtain rfl := Option.some.inj hf
      exact sm_iret0 hC hr hlk d_Model_placeOf_54
  · have hf := sm_t h3_1 hf
    refine lv_bipush (v := 10) hx hb d_Model_placeOf_6 (by decide) ?_
    refine lv_goto hx hb d_Model_placeOf_8 rfl ?_
    obtain rfl := Option.some.inj hf
    exact sm_iret0 hC hr hlk d_Model_placeOf_54
abbrev w_Model_fits : List Cond := Cond.code y_Model_fits b_Model_fits 2 (some .boolean) :: sm_AW
abbrev rm_Model_fits : Room := { frames := 0, cells := 0, slots := 0, locals := 0 }
def f_Model_fits (a0 : Int32) (a1 : Int32) : Option (Int32) :=
(if a0 < (-((1 : Int32) <<< ((a1 - (1 : Int32)) &&& 31))) then
(some (0 : Int32))
else
(if ((1 : Int32) <<< ((a1 - (1 : Int32)) &&& 31)) ≤ a0 then
(some (0 : Int32))
else
(some (1 : Int32))))
set_option maxHeartbeats 4000000 in
set_option maxRecDepth 100000 in
theorem c_Model_fits {l : Launch} {v : sm_V} {o : sm_O} {M : sm_M} {a0 : Int32} {a1 : Int32} {r : Int32} (hf : f_Model_fits a0 a1 = some r) : sm_Ri l y_Model_fits w_Model_fits rm_Model_fits v [.int a0, .int a1] M o r  := by
  refine sm_met (cc := b_Model_fits) (nL := 2) (ret := some .boolean) (plainFor_of_name (by decide)) rfl (Nat.le_of_ble_eq_true rfl) (fun p e s m args below meth c hC hr hlk hK hG ls hl => ?_)
  have hx := hC.1
  have hb := hC.2.1
  have hl : lv_has ls 2 [(0, .int a0), (1, .int a1)] := hl
  unfold f_Model_fits at hf
  refine lv_iload_n hx hb d_Model_fits_0 rfl (lv_at hl 0 rfl) ?_
  refine lv_iconst (v := 1) hx hb d_Model_fits_1 (by decide) ?_
  refine lv_iload_n hx hb d_Model_fits_2 rfl (lv_at hl 1 rfl) ?_
  refine lv_iconst (v := 1) hx hb d_Model_fits_3 (by decide) ?_
  refine lv_isub hx hb d_Model_fits_4 ?_
  refine lv_ishl hx hb d_Model_fits_5 ?_
  refine lv_ineg hx hb d_Model_fits_6 ?_
  refine lv_icmp_lt hx hb d_Model_fits_7 rfl (fun h7_1 => ?_) (fun h7_1 => ?_)
  · have hf := sm_t h7_1 hf
    refine lv_iconst (v := 0) hx hb d_Model_fits_23 (by decide) ?_
    obtain rfl := Option.some.inj hf
    exact sm_zret0 hC hr rfl hlk d_Model_fits_24
  · have hf := sm_f h7_1 hf
    refine lv_iload_n hx hb d_Model_fits_10 rfl (lv_at hl 0 rfl) ?_
    refine lv_iconst (v := 1) hx hb d_Model_fits_11 (by decide) ?_
    refine lv_iload_n hx hb d_Model_fits_12 rfl (lv_at hl 1 rfl) ?_
    refine lv_iconst (v := 1) hx hb d_Model_fits_13 (by decide) ?_
    refine lv_isub hx hb d_Model_fits_14 ?_
    refine lv_ishl hx hb d_Model_fits_15 ?_
    refine lv_icmp_ge hx hb d_Model_fits_16 rfl (fun h16_2 => ?_) (fun h16_2 => ?_)
    · have hf := sm_t h16_2 hf
      refine lv_iconst (v := 0) hx hb d_Model_fits_23 (by decide) ?_
      obtain rfl := Option.some.inj hf
      exact sm_zret0 hC hr rfl hlk d_Model_fits_24
    · have hf := sm_f h16_2 hf
      refine lv_iconst (v := 1) hx hb d_Model_fits_19 (by decide) ?_
      refine lv_goto hx hb d_Model_fits_20 rfl ?_
      obtain rfl := Option.some.inj hf
      exact sm_zret0 hC hr rfl hlk d_Model_fits_24
theorem ca_Model_78 {p : Program} {l : Launch} {e : Env} {R : Room} {s : State} {m : MethodId} {args : Array Value} {below : List Frame} {meth : Method} {c : Code} {H : Heap} {locs : List Loc} {cells slots : Nat} {Q : State → Prop} {cc : ByteArray} {nL pc : Nat} {ls : Array Slot} {rest : List Value} {w0 : Cond} {v : sm_V} {M : sm_M} {o : sm_O} {x0 : Int32} {r : Int32} (hC : CallFix p m c cc nL s args (w0 :: sm_AW) R_Model) (hK : sm_K v s) (hG : sm_G v M o s H locs) (hM : sm_Ri l y_Model_placeOf w_Model_placeOf rm_Model_placeOf v [.int x0] M o r) (hsz : ls.size = nL) (hR : rm_Model_placeOf.frames + 1 ≤ R.frames ∧ 8 + (1 + 11) + rm_Model_placeOf.locals ≤ R.locals) (hcs : cells + 0 ≤ R.cells ∧ slots + 0 ≤ R.slots) (hW : (rest.map fun v => v.category).sum ≤ 8) (hdg : decode cc pc = .ok (.invokestatic 78, 3))
    (kk : W p l e R s m args below meth c H locs cells slots Q (F0 m (pc + 3) ls (.int r :: rest))) : W p l e R s m args below meth c H locs cells slots Q (F0 m pc ls (.int x0 :: rest)) :=
  sm_calli0 (va_runS (As := [.int x0]) (rest := rest) hC hM (cwS 1 hC.2.2.2.2 (sm_good (sm_inS aw_795 aw_796 aw_7 aw_797)) rfl rfl rfl (by decide +kernel) hR) (sm_preS hK hG) rfl rfl hsz rfl (lv_room hW) hdg hcs) kk
theorem ca_Model_86 {p : Program} {l : Launch} {e : Env} {R : Room} {s : State} {m : MethodId} {args : Array Value} {below : List Frame} {meth : Method} {c : Code} {H : Heap} {locs : List Loc} {cells slots : Nat} {Q : State → Prop} {cc : ByteArray} {nL pc : Nat} {ls : Array Slot} {rest : List Value} {w0 : Cond} {v : sm_V} {M : sm_M} {o : sm_O} {x0 : Int32} {x1 : Int32} {r : Int32} (hC : CallFix p m c cc nL s args (w0 :: sm_AW) R_Model) (hK : sm_K v s) (hG : sm_G v M o s H locs) (hM : sm_Ri l y_Model_fits w_Model_fits rm_Model_fits v [.int x0, .int x1] M o r) (hsz : ls.size = nL) (hR : rm_Model_fits.frames + 1 ≤ R.frames ∧ 8 + (2 + 11) + rm_Model_fits.locals ≤ R.locals) (hcs : cells + 0 ≤ R.cells ∧ slots + 0 ≤ R.slots) (hW : (rest.map fun v => v.category).sum ≤ 8) (hdg : decode cc pc = .ok (.invokestatic 86, 3))
    (kk : W p l e R s m args below meth c H locs cells slots Q (F0 m (pc + 3) ls (.int r :: rest))) : W p l e R s m args below meth c H locs cells slots Q (F0 m pc ls (.int x1 :: .int x0 :: rest)) :=
  sm_calli0 (va_runS (As := [.int x0, .int x1]) (rest := rest) hC hM (cwS 2 hC.2.2.2.2 (sm_good (sm_inS aw_798 aw_799 aw_7 aw_800)) rfl rfl rfl (by decide +kernel) hR) (sm_preS hK hG) rfl rfl hsz rfl (lv_room hW) hdg hcs) kk
theorem ca_Model_82 {p : Program} {l : Launch} {e : Env} {R : Room} {s : State} {m : MethodId} {args : Array Value} {below : List Frame} {meth : Method} {c : Code} {H : Heap} {locs : List Loc} {cells slots : Nat} {Q : State → Prop} {cc : ByteArray} {nL pc : Nat} {ls : Array Slot} {rest : List Value} {w0 : Cond} {v : sm_V} {M : sm_M} {o : sm_O} {x0 : Int32} {x1 : Int32} {x2 : Int32} {r : Int32} (hC : CallFix p m c cc nL s args (w0 :: sm_AW) R_Model) (hK : sm_K v s) (hG : sm_G v M o s H locs) (hM : sm_Ri l y_Model_within w_Model_within rm_Model_within v [.int x0, .int x1, .int x2] M o r) (hsz : ls.size = nL) (hR : rm_Model_within.frames + 1 ≤ R.frames ∧ 8 + (3 + 11) + rm_Model_within.locals ≤ R.locals) (hcs : cells + 0 ≤ R.cells ∧ slots + 0 ≤ R.slots) (hW : (rest.map fun v => v.category).sum ≤ 8) (hdg : decode cc pc = .ok (.invokestatic 82, 3))
    (kk : W p l e R s m args below meth c H locs cells slots Q (F0 m (pc + 3) ls (.int r :: rest))) : W p l e R s m args below meth c H locs cells slots Q (F0 m pc ls (.int x2 :: .int x1 :: .int x0 :: rest)) :=
  sm_calli0 (va_runS (As := [.int x0, .int x1, .int x2]) (rest := rest) hC hM (cwS 3 hC.2.2.2.2 (sm_good (sm_inS aw_789 aw_790 aw_7 aw_791)) rfl rfl rfl (by decide +kernel) hR) (sm_preS hK hG) rfl rfl hsz rfl (lv_room hW) hdg hcs) kk
abbrev w_Model_isC : List Cond := Cond.code y_Model_isC b_Model_isC 3 (some .boolean) :: sm_AW
abbrev rm_Model_isC : Room := { frames := 1, cells := 0, slots := 0, locals := 22 }
def f_Model_isC (a0 : Int32) (a1 : Int32) : Option (Int32) :=
sm_b1 (f_Model_placeOf a0) fun r1_2 =>
(if r1_2 = (32 : Int32) then
(some (1 : Int32))
else
(if r1_2 = (15 : Int32) then
sm_b1 (f_Model_within a1 (0 : Int32) (31 : Int32)) fun r21_11 =>
(if r21_11 = 0 then
(some (0 : Int32))
else
(some (1 : Int32)))
else
sm_b1 (f_Model_fits a1 ((32 : Int32) - r1_2)) fun r35_7 =>
(if r35_7 = 0 then
(some (0 : Int32))
else
(some (1 : Int32)))))
set_option maxHeartbeats 4000000 in
set_option maxRecDepth 100000 in
theorem c_Model_isC {l : Launch} {v : sm_V} {o : sm_O} {M : sm_M} {a0 : Int32} {a1 : Int32} {r : Int32} (hf : f_Model_isC a0 a1 = some r) : sm_Ri l y_Model_isC w_Model_isC rm_Model_isC v [.int a0, .int a1] M o r  := by
  refine sm_met (cc := b_Model_isC) (nL := 3) (ret := some .boolean) (plainFor_of_name (by decide)) rfl (Nat.le_of_ble_eq_true rfl) (fun p e s m args below meth c hC hr hlk hK hG ls hl => ?_)
  have hx := hC.1
  have hb := hC.2.1
  have hl : lv_has ls 3 [(0, .int a0), (1, .int a1)] := hl
  unfold f_Model_isC at hf
  refine lv_iload_n hx hb d_Model_isC_0 rfl (lv_at hl 0 rfl) ?_
  obtain ⟨r1_2, hc1_1, hf⟩ := sm_of_b1 hf
  refine ca_Model_78 hC hK hG (c_Model_placeOf hc1_1) hl.1 ⟨Nat.le_of_ble_eq_true rfl, Nat.le_of_ble_eq_true rfl⟩ ⟨Nat.zero_le _, Nat.zero_le _⟩ (Nat.le_of_ble_eq_true rfl) d_Model_isC_1 ?_
  refine lv_istore_n hx hb d_Model_isC_4 rfl hl (Nat.le_of_ble_eq_true rfl) rfl (fun ls hl => ?_)
  have hl : lv_has ls 3 [(2, .int r1_2), (0, .int a0), (1, .int a1)] := hl
  have hl : lv_has ls 3 [(2, .int r1_2), (1, .int a1)] := lv_sub hl [0, 2] rfl
  refine lv_iload_n hx hb d_Model_isC_5 rfl (lv_at hl 0 rfl) ?_
  refine lv_bipush (v := 32) hx hb d_Model_isC_6 (by decide) ?_
  refine lv_icmp_eq hx hb d_Model_isC_8 rfl (fun h8_4 => ?_) (fun h8_4 => ?_)
  · have hf := sm_t h8_4 hf
    refine lv_iconst (v := 1) hx hb d_Model_isC_41 (by decide) ?_
    refine lv_goto hx hb d_Model_isC_42 rfl ?_
    obtain rfl := Option.some.inj hf
    exact sm_zret0 hC hr rfl hlk d_Model_isC_46
  · have hf := sm_f h8_4 hf
    refine lv_iload_n hx hb d_Model_isC_11 rfl (lv_at hl 0 rfl) ?_
    refine lv_bipush (v := 15) hx hb d_Model_isC_12 (by decide) ?_
    refine lv_icmp_ne hx hb d_Model_isC_14 rfl (fun h14_5 => ?_) (fun h14_5 => ?_)
    · have hf := sm_f h14_5 hf
      refine lv_iload_n hx hb d_Model_isC_30 rfl (lv_at hl 1 rfl) ?_
      refine lv_bipush (v := 32) hx hb d_Model_isC_31 (by decide) ?_
      refine lv_iload_n hx hb d_Model_isC_33 rfl (lv_at hl 0 rfl) ?_
      refine lv_isub hx hb d_Model_isC_34 ?_
      obtain ⟨r35_7, hc35_6, hf⟩ := sm_of_b1 hf
      refine ca_Model_86 hC hK hG (c_Model_fits hc35_6) hl.1 ⟨Nat.le_of_ble_eq_true rfl, Nat.le_of_ble_eq_true rfl⟩ ⟨Nat.zero_le _, Nat.zero_le _⟩ (Nat.le_of_ble_eq_true rfl) d_Model_isC_35 ?_
      refine lv_if_eq hx hb d_Model_isC_38 rfl (fun h38_9 => ?_) (fun h38_9 => ?_)
      · have hf := sm_t h38_9 hf
        refine lv_iconst (v := 0) hx hb d_Model_isC_45 (by decide) ?_
        obtain rfl := Option.some.inj hf
        exact sm_zret0 hC hr rfl hlk d_Model_isC_46
      · have hf := sm_f h38_9 hf
        refine lv_iconst (v := 1) hx hb d_Model_isC_41 (by decide) ?_
        refine lv_goto hx hb d_Model_isC_42 rfl ?_
        obtain rfl := Option.some.inj hf
        exact sm_zret0 hC hr rfl hlk d_Model_isC_46
    · have hf := sm_t h14_5 hf
      refine lv_iload_n hx hb d_Model_isC_17 rfl (lv_at hl 1 rfl) ?_
      refine lv_iconst (v := 0) hx hb d_Model_isC_18 (by decide) ?_
      refine lv_bipush (v := 31) hx hb d_Model_isC_19 (by decide) ?_
      obtain ⟨r21_11, hc21_10, hf⟩ := sm_of_b1 hf
      refine ca_Model_82 hC hK hG (c_Model_within hc21_10) hl.1 ⟨Nat.le_of_ble_eq_true rfl, Nat.le_of_ble_eq_true rfl⟩ ⟨Nat.zero_le _, Nat.zero_le _⟩ (Nat.le_of_ble_eq_true rfl) d_Model_isC_21 ?_
      refine lv_if_eq hx hb d_Model_isC_24 rfl (fun h24_13 => ?_) (fun h24_13 => ?_)
      · have hf := sm_t h24_13 hf
        refine lv_iconst (v := 0) hx hb d_Model_isC_45 (by decide) ?_
        obtain rfl := Option.some.inj hf
        exact sm_zret0 hC hr rfl hlk d_Model_isC_46
      · have hf := sm_f h24_13 hf
        refine lv_goto hx hb d_Model_isC_27 rfl ?_
        refine lv_iconst (v := 1) hx hb d_Model_isC_41 (by decide) ?_
        refine lv_goto hx hb d_Model_isC_42 rfl ?_
        obtain rfl := Option.some.inj hf
        exact sm_zret0 hC hr rfl hlk d_Model_isC_46
abbrev w_Model_packed : List Cond := Cond.code y_Model_packed b_Model_packed 6 (some .int) :: sm_AW
abbrev rm_Model_packed : Room := { frames := 1, cells := 0, slots := 0, locals := 20 }
def j_Model_packed_54 (y4 : Int32) (y3 : Int32) (z0 : Int32) : Option (Int32) :=
(if y4 = (32 : Int32) then
(some z0)
else
(some (z0 ||| (y3 <<< (y4 &&& 31)))))
def j_Model_packed_42 (y5 : Int32) (y4 : Int32) (y3 : Int32) : Option (Int32) :=
j_Model_packed_54 y4 y3 y5
def j_Model_packed_18 (y4 : Int32) (y0 : Int32) (y2 : Int32) (y3 : Int32) (z0 : Int32) (z1 : Int32) : Option (Int32) :=
sm_nm (z1 ||| z0) fun x19_5 =>
(if y0 = 0 then
j_Model_packed_42 x19_5 y4 y3
else
(if y0 = (1 : Int32) then
j_Model_packed_42 x19_5 y4 y3
else
(if y0 = (16 : Int32) then
j_Model_packed_42 x19_5 y4 y3
else
(if y0 = (18 : Int32) then
j_Model_packed_42 x19_5 y4 y3
else
j_Model_packed_54 y4 y3 (x19_5 ||| (y2 <<< ((10 : Int32) &&& 31)))))))
def f_Model_packed (a0 : Int32) (a1 : Int32) (a2 : Int32) (a3 : Int32) : Option (Int32) :=
sm_b1 (f_Model_placeOf a0) fun r1_2 =>
(if a0 = 0 then
j_Model_packed_18 r1_2 a0 a2 a3 (0 : Int32) a0
else
j_Model_packed_18 r1_2 a0 a2 a3 (a1 <<< ((5 : Int32) &&& 31)) a0)
set_option maxHeartbeats 4000000 in
set_option maxRecDepth 100000 in
theorem jw_Model_packed_54 {p : Program} {l : Launch} {e : Env} {s : State} {m : MethodId} {args : Array Value} {below : List Frame} {meth : Method} {c : Code} {v : sm_V} {o : sm_O} {r : Int32} (hC : CallFix p m c b_Model_packed 6 s args w_Model_packed R_Model) (hr : meth.sig.returnType = some .int) (hlk : meth.locks = false) (hK : sm_K v s) {M : sm_M} (y4 : Int32) (y3 : Int32) (z0 : Int32) {ls : Array Slot} (hG : sm_G v M o s s.heap []) (hl : lv_has ls 6 [(4, .int y4), (3, .int y3)]) (hf : j_Model_packed_54 y4 y3 z0 = some r) : W p l e rm_Model_packed s m args below meth c s.heap [] 0 0 (MQ below (sm_Qi0 r) args s 0 0 (fun _ => False)) (F0 m 54 ls [.int z0]) := by
  have hx := hC.1
  have hb := hC.2.1
  unfold j_Model_packed_54 at hf
  refine lv_istore hx hb d_Model_packed_54 hl (Nat.le_of_ble_eq_true rfl) rfl (fun ls hl => ?_)
  have hl : lv_has ls 6 [(5, .int z0), (4, .int y4), (3, .int y3)] := hl
  refine lv_iload hx hb d_Model_packed_56 (lv_at hl 1 rfl) ?_
  refine lv_bipush (v := 32) hx hb d_Model_packed_58 (by decide) ?_
  refine lv_icmp_ne hx hb d_Model_packed_60 rfl (fun h60_7 => ?_) (fun h60_7 => ?_)
  · have hf := sm_f h60_7 hf
    refine lv_iload hx hb d_Model_packed_68 (lv_at hl 0 rfl) ?_
    refine lv_iload_n hx hb d_Model_packed_70 rfl (lv_at hl 2 rfl) ?_
    refine lv_iload hx hb d_Model_packed_71 (lv_at hl 1 rfl) ?_
    refine lv_ishl hx hb d_Model_packed_73 ?_
    refine lv_ior hx hb d_Model_packed_74 ?_
    obtain rfl := Option.some.inj hf
    exact sm_iret0 hC hr hlk d_Model_packed_75
  · have hf := sm_t h60_7 hf
    refine lv_iload hx hb d_Model_packed_63 (lv_at hl 0 rfl) ?_
    refine lv_goto hx hb d_Model_packed_65 rfl ?_
    obtain rfl := Option.some.inj hf
    exact sm_iret0 hC hr hlk d_Model_packed_75
set_option maxHeartbeats 4000000 in
set_option maxRecDepth 100000 in
theorem jw_Model_packed_42 {p : Program} {l : Launch} {e : Env} {s : State} {m : MethodId} {args : Array Value} {below : List Frame} {meth : Method} {c : Code} {v : sm_V} {o : sm_O} {r : Int32} (hC : CallFix p m c b_Model_packed 6 s args w_Model_packed R_Model) (hr : meth.sig.returnType = some .int) (hlk : meth.locks = false) (hK : sm_K v s) {M : sm_M} (y5 : Int32) (y4 : Int32) (y3 : Int32) {ls : Array Slot} (hG : sm_G v M o s s.heap []) (hl : lv_has ls 6 [(5, .int y5), (4, .int y4), (3, .int y3)]) (hf : j_Model_packed_42 y5 y4 y3 = some r) : W p l e rm_Model_packed s m args below meth c s.heap [] 0 0 (MQ below (sm_Qi0 r) args s 0 0 (fun _ => False)) (F0 m 42 ls []) := by
  have hx := hC.1
  have hb := hC.2.1
  unfold j_Model_packed_42 at hf
  refine lv_iload hx hb d_Model_packed_42 (lv_at hl 0 rfl) ?_
  refine lv_goto hx hb d_Model_packed_44 rfl ?_
  exact jw_Model_packed_54 hC hr hlk hK y4 y3 y5 hG (lv_sub hl [1, 2] rfl) hf
set_option maxHeartbeats 4000000 in
set_option maxRecDepth 100000 in
theorem jw_Model_packed_18 {p : Program} {l : Launch} {e : Env} {s : State} {m : MethodId} {args : Array Value} {below : List Frame} {meth : Method} {c : Code} {v : sm_V} {o : sm_O} {r : Int32} (hC : CallFix p m c b_Model_packed 6 s args w_Model_packed R_Model) (hr : meth.sig.returnType = some .int) (hlk : meth.locks = false) (hK : sm_K v s) {M : sm_M} (y4 : Int32) (y0 : Int32) (y2 : Int32) (y3 : Int32) (z0 : Int32) (z1 : Int32) {ls : Array Slot} (hG : sm_G v M o s s.heap []) (hl : lv_has ls 6 [(4, .int y4), (0, .int y0), (2, .int y2), (3, .int y3)]) (hf : j_Model_packed_18 y4 y0 y2 y3 z0 z1 = some r) : W p l e rm_Model_packed s m args below meth c s.heap [] 0 0 (MQ below (sm_Qi0 r) args s 0 0 (fun _ => False)) (F0 m 18 ls [.int z0, .int z1]) := by
  have hx := hC.1
  have hb := hC.2.1
  unfold j_Model_packed_18 at hf
  refine lv_ior hx hb d_Model_packed_18 ?_
  refine lv_topi (fun x19_5 ex19_5 => ?_)
  have hf := sm_of ex19_5 hf
  refine lv_istore hx hb d_Model_packed_19 hl (Nat.le_of_ble_eq_true rfl) rfl (fun ls hl => ?_)
  have hl : lv_has ls 6 [(5, .int x19_5), (4, .int y4), (0, .int y0), (2, .int y2), (3, .int y3)] := hl
  refine lv_iload_n hx hb d_Model_packed_21 rfl (lv_at hl 2 rfl) ?_
  refine lv_if_eq hx hb d_Model_packed_22 rfl (fun h22_6 => ?_) (fun h22_6 => ?_)
  · have hf := sm_t h22_6 hf
    exact jw_Model_packed_42 hC hr hlk hK x19_5 y4 y3 hG (lv_sub hl [0, 1, 4] rfl) hf
  · have hf := sm_f h22_6 hf
    refine lv_iload_n hx hb d_Model_packed_25 rfl (lv_at hl 2 rfl) ?_
    refine lv_iconst (v := 1) hx hb d_Model_packed_26 (by decide) ?_
    refine lv_icmp_eq hx hb d_Model_packed_27 rfl (fun h27_8 => ?_) (fun h27_8 => ?_)
    · have hf := sm_t h27_8 hf
      exact jw_Model_packed_42 hC hr hlk hK x19_5 y4 y3 hG (lv_sub hl [0, 1, 4] rfl) hf
    · have hf := sm_f h27_8 hf
      refine lv_iload_n hx hb d_Model_packed_30 rfl (lv_at hl 2 rfl) ?_
      refine lv_bipush (v := 16) hx hb d_Model_packed_31 (by decide) ?_
      refine lv_icmp_eq hx hb d_Model_packed_33 rfl (fun h33_9 => ?_) (fun h33_9 => ?_)
      · have hf := sm_t h33_9 hf
        exact jw_Model_packed_42 hC hr hlk hK x19_5 y4 y3 hG (lv_sub hl [0, 1, 4] rfl) hf
      · have hf := sm_f h33_9 hf
        refine lv_iload_n hx hb d_Model_packed_36 rfl (lv_at hl 2 rfl) ?_
        refine lv_bipush (v := 18) hx hb d_Model_packed_37 (by decide) ?_
        refine lv_icmp_ne hx hb d_Model_packed_39 rfl (fun h39_10 => ?_) (fun h39_10 => ?_)
        · have hf := sm_f h39_10 hf
          refine lv_iload hx hb d_Model_packed_47 (lv_at hl 0 rfl) ?_
          refine lv_iload_n hx hb d_Model_packed_49 rfl (lv_at hl 3 rfl) ?_
          refine lv_bipush (v := 10) hx hb d_Model_packed_50 (by decide) ?_
          refine lv_ishl hx hb d_Model_packed_52 ?_
          refine lv_ior hx hb d_Model_packed_53 ?_
          exact jw_Model_packed_54 hC hr hlk hK y4 y3 (x19_5 ||| (y2 <<< ((10 : Int32) &&& 31))) hG (lv_sub hl [1, 4] rfl) hf
        · have hf := sm_t h39_10 hf
          exact jw_Model_packed_42 hC hr hlk hK x19_5 y4 y3 hG (lv_sub hl [0, 1, 4] rfl) hf
set_option maxHeartbeats 4000000 in
set_option maxRecDepth 100000 in
theorem c_Model_packed {l : Launch} {v : sm_V} {o : sm_O} {M : sm_M} {a0 : Int32} {a1 : Int32} {a2 : Int32} {a3 : Int32} {r : Int32} (hf : f_Model_packed a0 a1 a2 a3 = some r) : sm_Ri l y_Model_packed w_Model_packed rm_Model_packed v [.int a0, .int a1, .int a2, .int a3] M o r  := by
  refine sm_met (cc := b_Model_packed) (nL := 6) (ret := some .int) (plainFor_of_name (by decide)) rfl (Nat.le_of_ble_eq_true rfl) (fun p e s m args below meth c hC hr hlk hK hG ls hl => ?_)
  have hx := hC.1
  have hb := hC.2.1
  have hl : lv_has ls 6 [(0, .int a0), (1, .int a1), (2, .int a2), (3, .int a3)] := hl
  unfold f_Model_packed at hf
  refine lv_iload_n hx hb d_Model_packed_0 rfl (lv_at hl 0 rfl) ?_
  obtain ⟨r1_2, hc1_1, hf⟩ := sm_of_b1 hf
  refine ca_Model_78 hC hK hG (c_Model_placeOf hc1_1) hl.1 ⟨Nat.le_of_ble_eq_true rfl, Nat.le_of_ble_eq_true rfl⟩ ⟨Nat.zero_le _, Nat.zero_le _⟩ (Nat.le_of_ble_eq_true rfl) d_Model_packed_1 ?_
  refine lv_istore hx hb d_Model_packed_4 hl (Nat.le_of_ble_eq_true rfl) rfl (fun ls hl => ?_)
  have hl : lv_has ls 6 [(4, .int r1_2), (0, .int a0), (1, .int a1), (2, .int a2), (3, .int a3)] := hl
  refine lv_iload_n hx hb d_Model_packed_6 rfl (lv_at hl 1 rfl) ?_
  refine lv_iload_n hx hb d_Model_packed_7 rfl (lv_at hl 1 rfl) ?_
  refine lv_if_ne hx hb d_Model_packed_8 rfl (fun h8_4 => ?_) (fun h8_4 => ?_)
  · have hf := sm_f h8_4 hf
    refine lv_iload_n hx hb d_Model_packed_15 rfl (lv_at hl 2 rfl) ?_
    refine lv_iconst (v := 5) hx hb d_Model_packed_16 (by decide) ?_
    refine lv_ishl hx hb d_Model_packed_17 ?_
    exact jw_Model_packed_18 hC hr hlk hK r1_2 a0 a2 a3 (a1 <<< ((5 : Int32) &&& 31)) a0 hG (lv_sub hl [0, 1, 3, 4] rfl) hf
  · have hf := sm_t h8_4 hf
    refine lv_iconst (v := 0) hx hb d_Model_packed_11 (by decide) ?_
    refine lv_goto hx hb d_Model_packed_12 rfl ?_
    exact jw_Model_packed_18 hC hr hlk hK r1_2 a0 a2 a3 (0 : Int32) a0 hG (lv_sub hl [0, 1, 3, 4] rfl) hf
theorem ca_Model_93 {p : Program} {l : Launch} {e : Env} {R : Room} {s : State} {m : MethodId} {args : Array Value} {below : List Frame} {meth : Method} {c : Code} {H : Heap} {locs : List Loc} {cells slots : Nat} {Q : State → Prop} {cc : ByteArray} {nL pc : Nat} {ls : Array Slot} {rest : List Value} {w0 : Cond} {v : sm_V} {M : sm_M} {o : sm_O} {x0 : Int32} {x1 : Int32} {x2 : Int32} {x3 : Int32} {r : Int32} (hC : CallFix p m c cc nL s args (w0 :: sm_AW) R_Model) (hK : sm_K v s) (hG : sm_G v M o s H locs) (hM : sm_Ri l y_Model_packed w_Model_packed rm_Model_packed v [.int x0, .int x1, .int x2, .int x3] M o r) (hsz : ls.size = nL) (hR : rm_Model_packed.frames + 1 ≤ R.frames ∧ 8 + (6 + 11) + rm_Model_packed.locals ≤ R.locals) (hcs : cells + 0 ≤ R.cells ∧ slots + 0 ≤ R.slots) (hW : (rest.map fun v => v.category).sum ≤ 8) (hdg : decode cc pc = .ok (.invokestatic 93, 3))
    (kk : W p l e R s m args below meth c H locs cells slots Q (F0 m (pc + 3) ls (.int r :: rest))) : W p l e R s m args below meth c H locs cells slots Q (F0 m pc ls (.int x3 :: .int x2 :: .int x1 :: .int x0 :: rest)) :=
  sm_calli0 (va_runS (As := [.int x0, .int x1, .int x2, .int x3]) (rest := rest) hC hM (cwS 4 hC.2.2.2.2 (sm_good (sm_inS aw_801 aw_802 aw_7 aw_803)) rfl rfl rfl (by decide +kernel) hR) (sm_preS hK hG) rfl rfl hsz rfl (lv_room hW) hdg hcs) kk
theorem ca_Model_90 {p : Program} {l : Launch} {e : Env} {R : Room} {s : State} {m : MethodId} {args : Array Value} {below : List Frame} {meth : Method} {c : Code} {H : Heap} {locs : List Loc} {cells slots : Nat} {Q : State → Prop} {cc : ByteArray} {nL pc : Nat} {ls : Array Slot} {rest : List Value} {w0 : Cond} {v : sm_V} {M : sm_M} {o : sm_O} {x0 : Int32} {x1 : Int32} {r : Int32} (hC : CallFix p m c cc nL s args (w0 :: sm_AW) R_Model) (hK : sm_K v s) (hG : sm_G v M o s H locs) (hM : sm_Ri l y_Model_isC w_Model_isC rm_Model_isC v [.int x0, .int x1] M o r) (hsz : ls.size = nL) (hR : rm_Model_isC.frames + 1 ≤ R.frames ∧ 8 + (3 + 11) + rm_Model_isC.locals ≤ R.locals) (hcs : cells + 0 ≤ R.cells ∧ slots + 0 ≤ R.slots) (hW : (rest.map fun v => v.category).sum ≤ 8) (hdg : decode cc pc = .ok (.invokestatic 90, 3))
    (kk : W p l e R s m args below meth c H locs cells slots Q (F0 m (pc + 3) ls (.int r :: rest))) : W p l e R s m args below meth c H locs cells slots Q (F0 m pc ls (.int x1 :: .int x0 :: rest)) :=
  sm_calli0 (va_runS (As := [.int x0, .int x1]) (rest := rest) hC hM (cwS 2 hC.2.2.2.2 (sm_good (sm_inS aw_792 aw_793 aw_7 aw_794)) rfl rfl rfl (by decide +kernel) hR) (sm_preS hK hG) rfl rfl hsz rfl (lv_room hW) hdg hcs) kk
abbrev w_Model_put : List Cond := Cond.code y_Model_put b_Model_put 7 (some .int) :: sm_AW
abbrev rm_Model_put : Room := { frames := 2, cells := 0, slots := 0, locals := 45 }
def j_Model_put_84 (M : sm_M) (y1 : Int32) (y2 : Int32) (y3 : Int32) (y4 : Int32) (y5 : Int32) (z0 : Int32) : Option (Int32 × sm_M) :=
sm_nm (sm_up M 68 0 z0) fun M84_8 =>
(if (M84_8 68 0) ≤ 0 then
sm_gd ((2 : Int32) * y1) 8 (
sm_b1 (f_Model_packed y2 y3 y4 y5) fun r119_12 =>
sm_gd (((48 : Int32) * y1) + (M84_8 70 (Int32.toNatClampNeg ((2 : Int32) * y1)))) 192 (
sm_nm (sm_up M84_8 69 (Int32.toNatClampNeg (((48 : Int32) * y1) + (M84_8 70 (Int32.toNatClampNeg ((2 : Int32) * y1))))) r119_12) fun M122_15 =>
sm_gd ((2 : Int32) * y1) 8 (
sm_gd ((2 : Int32) * y1) 8 (
sm_nm (sm_up M122_15 70 (Int32.toNatClampNeg ((2 : Int32) * y1)) ((M122_15 70 (Int32.toNatClampNeg ((2 : Int32) * y1))) + (1 : Int32))) fun M134_18 =>
sm_gd ((2 : Int32) * y1) 8 (
(some ((M134_18 70 (Int32.toNatClampNeg ((2 : Int32) * y1))) - (1 : Int32), M134_18)))))))
else
(some ((0 : Int32), M84_8)))
def j_Model_put_54 (M : sm_M) (y1 : Int32) (y2 : Int32) (y3 : Int32) (y4 : Int32) (y5 : Int32) (z0 : Int32) : Option (Int32 × sm_M) :=
(if z0 = 0 then
j_Model_put_84 M y1 y2 y3 y4 y5 (1 : Int32)
else
sm_gd ((2 : Int32) * y1) 8 (
(if (M 70 (Int32.toNatClampNeg ((2 : Int32) * y1))) = (24 : Int32) then
j_Model_put_84 M y1 y2 y3 y4 y5 (2 : Int32)
else
j_Model_put_84 M y1 y2 y3 y4 y5 (0 : Int32))))
def j_Model_put_53 (M : sm_M) (y1 : Int32) (y2 : Int32) (y3 : Int32) (y4 : Int32) (y5 : Int32) : Option (Int32 × sm_M) :=
j_Model_put_54 M y1 y2 y3 y4 y5 (0 : Int32)
def f_Model_put (M : sm_M) (a0 : Int32) (a1 : Int32) (a2 : Int32) (a3 : Int32) (a4 : Int32) : Option (Int32 × sm_M) :=
sm_b1 (f_Model_within a0 (0 : Int32) (3 : Int32)) fun r3_2 =>
(if r3_2 = 0 then
j_Model_put_53 M a0 a1 a2 a3 a4
else
sm_b1 (f_Model_within a1 (0 : Int32) (18 : Int32)) fun r13_21 =>
(if r13_21 = 0 then
j_Model_put_53 M a0 a1 a2 a3 a4
else
sm_b1 (f_Model_within a2 (0 : Int32) (31 : Int32)) fun r23_25 =>
(if r23_25 = 0 then
j_Model_put_53 M a0 a1 a2 a3 a4
else
sm_b1 (f_Model_within a3 (0 : Int32) (31 : Int32)) fun r34_29 =>
(if r34_29 = 0 then
j_Model_put_53 M a0 a1 a2 a3 a4
else
sm_b1 (f_Model_isC a1 a4) fun r43_33 =>
(if r43_33 = 0 then
j_Model_put_53 M a0 a1 a2 a3 a4
else
j_Model_put_54 M a0 a1 a2 a3 a4 (1 : Int32))))))
set_option maxHeartbeats 4000000 in
set_option maxRecDepth 100000 in
theorem jw_Model_put_84 {p : Program} {l : Launch} {e : Env} {s : State} {m : MethodId} {args : Array Value} {below : List Frame} {meth : Method} {c : Code} {v : sm_V} {o : sm_O} {r : Int32} {M' : sm_M} (hC : CallFix p m c b_Model_put 7 s args w_Model_put R_Model) (hr : meth.sig.returnType = some .int) (hlk : meth.locks = false) (hK : sm_K v s) (M : sm_M) (y1 : Int32) (y2 : Int32) (y3 : Int32) (y4 : Int32) (y5 : Int32) (z0 : Int32) {H : Heap} {locs : List Loc} {ls : Array Slot} (hG : sm_G v M o s H locs) (hl : lv_has ls 7 [(0, .ref (sm_a v 68)), (1, .int y1), (2, .int y2), (3, .int y3), (4, .int y4), (5, .int y5)]) (hf : j_Model_put_84 M y1 y2 y3 y4 y5 z0 = some (r, M')) : W p l e rm_Model_put s m args below meth c H locs 0 0 (MQ below (sm_Qi v M' o r) args s 0 0 (sm_A v)) (F0 m 84 ls [.int z0, .ref (sm_a v 68)]) := by
  have hx := hC.1
  have hb := hC.2.1
  unfold j_Model_put_84 at hf
  refine pf_Model_74 hC hK hG d_Model_put_84 (fun M84_8 H locs eM84_8 hG => ?_)
  have hf := sm_of eM84_8 hf
  refine lv_aload_n hx hb d_Model_put_87 rfl (lv_at hl 0 rfl) ?_
  refine gf_Model_74 hC hK hG d_Model_put_88 ?_
  refine lv_if_le hx hb d_Model_put_91 rfl (fun h91_9 => ?_) (fun h91_9 => ?_)
  · have hf := sm_t h91_9 hf
    refine lv_aload_n hx hb d_Model_put_96 rfl (lv_at hl 0 rfl) ?_
    refine gf_Model_7 hC hK hG d_Model_put_97 ?_
    refine lv_bipush (v := 48) hx hb d_Model_put_100 (by decide) ?_
    refine lv_iload_n hx hb d_Model_put_102 rfl (lv_at hl 1 rfl) ?_
    refine lv_imul hx hb d_Model_put_103 ?_
    refine lv_aload_n hx hb d_Model_put_104 rfl (lv_at hl 0 rfl) ?_
    refine gf_Model_13 hC hK hG d_Model_put_105 ?_
    refine lv_iconst (v := 2) hx hb d_Model_put_108 (by decide) ?_
    refine lv_iload_n hx hb d_Model_put_109 rfl (lv_at hl 1 rfl) ?_
    refine lv_imul hx hb d_Model_put_110 ?_
    obtain ⟨h111_10, hf⟩ := sm_of_gd hf
    refine sm_iald hC hK hG (by decide) rfl h111_10 d_Model_put_111 ?_
    refine lv_iadd hx hb d_Model_put_112 ?_
    refine lv_iload_n hx hb d_Model_put_113 rfl (lv_at hl 2 rfl) ?_
    refine lv_iload_n hx hb d_Model_put_114 rfl (lv_at hl 3 rfl) ?_
    refine lv_iload hx hb d_Model_put_115 (lv_at hl 4 rfl) ?_
    refine lv_iload hx hb d_Model_put_117 (lv_at hl 5 rfl) ?_
    obtain ⟨r119_12, hc119_11, hf⟩ := sm_of_b1 hf
    refine ca_Model_93 hC hK hG (c_Model_packed hc119_11) hl.1 ⟨Nat.le_of_ble_eq_true rfl, Nat.le_of_ble_eq_true rfl⟩ ⟨Nat.zero_le _, Nat.zero_le _⟩ (Nat.le_of_ble_eq_true rfl) d_Model_put_119 ?_
    obtain ⟨h122_14, hf⟩ := sm_of_gd hf
    refine sm_iast hC hK hG (by decide) rfl h122_14 d_Model_put_122 (fun M122_15 H locs eM122_15 hG => ?_)
    have hf := sm_of eM122_15 hf
    refine lv_aload_n hx hb d_Model_put_123 rfl (lv_at hl 0 rfl) ?_
    refine gf_Model_13 hC hK hG d_Model_put_124 ?_
    refine lv_iconst (v := 2) hx hb d_Model_put_127 (by decide) ?_
    refine lv_iload_n hx hb d_Model_put_128 rfl (lv_at hl 1 rfl) ?_
    refine lv_imul hx hb d_Model_put_129 ?_
    refine lv_dup2_11 hx hb d_Model_put_130 rfl rfl ?_
    obtain ⟨h131_16, hf⟩ := sm_of_gd hf
    refine sm_iald hC hK hG (by decide) rfl h131_16 d_Model_put_131 ?_
    refine lv_iconst (v := 1) hx hb d_Model_put_132 (by decide) ?_
    refine lv_iadd hx hb d_Model_put_133 ?_
    obtain ⟨h134_17, hf⟩ := sm_of_gd hf
    refine sm_iast hC hK hG (by decide) rfl h134_17 d_Model_put_134 (fun M134_18 H locs eM134_18 hG => ?_)
    have hf := sm_of eM134_18 hf
    refine lv_aload_n hx hb d_Model_put_135 rfl (lv_at hl 0 rfl) ?_
    refine gf_Model_13 hC hK hG d_Model_put_136 ?_
    refine lv_iconst (v := 2) hx hb d_Model_put_139 (by decide) ?_
    refine lv_iload_n hx hb d_Model_put_140 rfl (lv_at hl 1 rfl) ?_
    refine lv_imul hx hb d_Model_put_141 ?_
    obtain ⟨h142_19, hf⟩ := sm_of_gd hf
    refine sm_iald hC hK hG (by decide) rfl h142_19 d_Model_put_142 ?_
    refine lv_iconst (v := 1) hx hb d_Model_put_143 (by decide) ?_
    refine lv_isub hx hb d_Model_put_144 ?_
    obtain ⟨rfl, rfl⟩ := Prod.mk.inj (Option.some.inj hf)
    exact sm_iret hC hr hlk hG d_Model_put_145
  · have hf := sm_f h91_9 hf
    refine lv_iconst (v := 0) hx hb d_Model_put_94 (by decide) ?_
    obtain ⟨rfl, rfl⟩ := Prod.mk.inj (Option.some.inj hf)
    exact sm_iret hC hr hlk hG d_Model_put_95
set_option maxHeartbeats 4000000 in
set_option maxRecDepth 100000 in
theorem jw_Model_put_54 {p : Program} {l : Launch} {e : Env} {s : State} {m : MethodId} {args : Array Value} {below : List Frame} {meth : Method} {c : Code} {v : sm_V} {o : sm_O} {r : Int32} {M' : sm_M} (hC : CallFix p m c b_Model_put 7 s args w_Model_put R_Model) (hr : meth.sig.returnType = some .int) (hlk : meth.locks = false) (hK : sm_K v s) (M : sm_M) (y1 : Int32) (y2 : Int32) (y3 : Int32) (y4 : Int32) (y5 : Int32) (z0 : Int32) {H : Heap} {locs : List Loc} {ls : Array Slot} (hG : sm_G v M o s H locs) (hl : lv_has ls 7 [(0, .ref (sm_a v 68)), (1, .int y1), (2, .int y2), (3, .int y3), (4, .int y4), (5, .int y5)]) (hf : j_Model_put_54 M y1 y2 y3 y4 y5 z0 = some (r, M')) : W p l e rm_Model_put s m args below meth c H locs 0 0 (MQ below (sm_Qi v M' o r) args s 0 0 (sm_A v)) (F0 m 54 ls [.int z0]) := by
  have hx := hC.1
  have hb := hC.2.1
  unfold j_Model_put_54 at hf
  refine lv_istore hx hb d_Model_put_54 hl (Nat.le_of_ble_eq_true rfl) rfl (fun ls hl => ?_)
  have hl : lv_has ls 7 [(6, .int z0), (0, .ref (sm_a v 68)), (1, .int y1), (2, .int y2), (3, .int y3), (4, .int y4), (5, .int y5)] := hl
  refine lv_aload_n hx hb d_Model_put_56 rfl (lv_at hl 1 rfl) ?_
  refine lv_iload hx hb d_Model_put_57 (lv_at hl 0 rfl) ?_
  refine lv_if_ne hx hb d_Model_put_59 rfl (fun h59_5 => ?_) (fun h59_5 => ?_)
  · have hf := sm_f h59_5 hf
    refine lv_aload_n hx hb d_Model_put_66 rfl (lv_at hl 1 rfl) ?_
    refine gf_Model_13 hC hK hG d_Model_put_67 ?_
    refine lv_iconst (v := 2) hx hb d_Model_put_70 (by decide) ?_
    refine lv_iload_n hx hb d_Model_put_71 rfl (lv_at hl 2 rfl) ?_
    refine lv_imul hx hb d_Model_put_72 ?_
    obtain ⟨h73_6, hf⟩ := sm_of_gd hf
    refine sm_iald hC hK hG (by decide) rfl h73_6 d_Model_put_73 ?_
    refine lv_bipush (v := 24) hx hb d_Model_put_74 (by decide) ?_
    refine lv_icmp_ne hx hb d_Model_put_76 rfl (fun h76_7 => ?_) (fun h76_7 => ?_)
    · have hf := sm_f h76_7 hf
      refine lv_iconst (v := 0) hx hb d_Model_put_83 (by decide) ?_
      exact jw_Model_put_84 hC hr hlk hK M y1 y2 y3 y4 y5 (0 : Int32) hG (lv_sub hl [1, 2, 3, 4, 5, 6] rfl) hf
    · have hf := sm_t h76_7 hf
      refine lv_iconst (v := 2) hx hb d_Model_put_79 (by decide) ?_
      refine lv_goto hx hb d_Model_put_80 rfl ?_
      exact jw_Model_put_84 hC hr hlk hK M y1 y2 y3 y4 y5 (2 : Int32) hG (lv_sub hl [1, 2, 3, 4, 5, 6] rfl) hf
  · have hf := sm_t h59_5 hf
    refine lv_iconst (v := 1) hx hb d_Model_put_62 (by decide) ?_
    refine lv_goto hx hb d_Model_put_63 rfl ?_
    exact jw_Model_put_84 hC hr hlk hK M y1 y2 y3 y4 y5 (1 : Int32) hG (lv_sub hl [1, 2, 3, 4, 5, 6] rfl) hf
set_option maxHeartbeats 4000000 in
set_option maxRecDepth 100000 in
theorem jw_Model_put_53 {p : Program} {l : Launch} {e : Env} {s : State} {m : MethodId} {args : Array Value} {below : List Frame} {meth : Method} {c : Code} {v : sm_V} {o : sm_O} {r : Int32} {M' : sm_M} (hC : CallFix p m c b_Model_put 7 s args w_Model_put R_Model) (hr : meth.sig.returnType = some .int) (hlk : meth.locks = false) (hK : sm_K v s) (M : sm_M) (y1 : Int32) (y2 : Int32) (y3 : Int32) (y4 : Int32) (y5 : Int32) {H : Heap} {locs : List Loc} {ls : Array Slot} (hG : sm_G v M o s H locs) (hl : lv_has ls 7 [(0, .ref (sm_a v 68)), (1, .int y1), (2, .int y2), (3, .int y3), (4, .int y4), (5, .int y5)]) (hf : j_Model_put_53 M y1 y2 y3 y4 y5 = some (r, M')) : W p l e rm_Model_put s m args below meth c H locs 0 0 (MQ below (sm_Qi v M' o r) args s 0 0 (sm_A v)) (F0 m 53 ls []) := by
  have hx := hC.1
  have hb := hC.2.1
  unfold j_Model_put_53 at hf
  refine lv_iconst (v := 0) hx hb d_Model_put_53 (by decide) ?_
  exact jw_Model_put_54 hC hr hlk hK M y1 y2 y3 y4 y5 (0 : Int32) hG hl hf
set_option maxHeartbeats 4000000 in
set_option maxRecDepth 100000 in
theorem c_Model_put {l : Launch} {v : sm_V} {o : sm_O} {M : sm_M} {a0 : Int32} {a1 : Int32} {a2 : Int32} {a3 : Int32} {a4 : Int32} {r : Int32} {M' : sm_M} (hf : f_Model_put M a0 a1 a2 a3 a4 = some (r, M')) : sm_Ci l y_Model_put w_Model_put rm_Model_put v [.ref (sm_a v 68), .int a0, .int a1, .int a2, .int a3, .int a4] M o r M' := by
  refine sm_met (cc := b_Model_put) (nL := 7) (ret := some .int) (plainFor_of_name (by decide)) rfl (Nat.le_of_ble_eq_true rfl) (fun p e s m args below meth c hC hr hlk hK hG ls hl => ?_)
  have hx := hC.1
  have hb := hC.2.1
  have hl : lv_has ls 7 [(0, .ref (sm_a v 68)), (1, .int a0), (2, .int a1), (3, .int a2), (4, .int a3), (5, .int a4)] := hl
  unfold f_Model_put at hf
  refine lv_iload_n hx hb d_Model_put_0 rfl (lv_at hl 1 rfl) ?_
  refine lv_iconst (v := 0) hx hb d_Model_put_1 (by decide) ?_
  refine lv_iconst (v := 3) hx hb d_Model_put_2 (by decide) ?_
  obtain ⟨r3_2, hc3_1, hf⟩ := sm_of_b1 hf
  refine ca_Model_82 hC hK hG (c_Model_within hc3_1) hl.1 ⟨Nat.le_of_ble_eq_true rfl, Nat.le_of_ble_eq_true rfl⟩ ⟨Nat.zero_le _, Nat.zero_le _⟩ (Nat.le_of_ble_eq_true rfl) d_Model_put_3 ?_
  refine lv_if_eq hx hb d_Model_put_6 rfl (fun h6_4 => ?_) (fun h6_4 => ?_)
  · have hf := sm_t h6_4 hf
    exact jw_Model_put_53 hC hr hlk hK M a0 a1 a2 a3 a4 hG hl hf
  · have hf := sm_f h6_4 hf
    refine lv_iload_n hx hb d_Model_put_9 rfl (lv_at hl 2 rfl) ?_
    refine lv_iconst (v := 0) hx hb d_Model_put_10 (by decide) ?_
    refine lv_bipush (v := 18) hx hb d_Model_put_11 (by decide) ?_
    obtain ⟨r13_21, hc13_20, hf⟩ := sm_of_b1 hf
    refine ca_Model_82 hC hK hG (c_Model_within hc13_20) hl.1 ⟨Nat.le_of_ble_eq_true rfl, Nat.le_of_ble_eq_true rfl⟩ ⟨Nat.zero_le _, Nat.zero_le _⟩ (Nat.le_of_ble_eq_true rfl) d_Model_put_13 ?_
    refine lv_if_eq hx hb d_Model_put_16 rfl (fun h16_23 => ?_) (fun h16_23 => ?_)
    · have hf := sm_t h16_23 hf
      exact jw_Model_put_53 hC hr hlk hK M a0 a1 a2 a3 a4 hG hl hf
    · have hf := sm_f h16_23 hf
      refine lv_iload_n hx hb d_Model_put_19 rfl (lv_at hl 3 rfl) ?_
      refine lv_iconst (v := 0) hx hb d_Model_put_20 (by decide) ?_
      refine lv_bipush (v := 31) hx hb d_Model_put_21 (by decide) ?_
      obtain ⟨r23_25, hc23_24, hf⟩ := sm_of_b1 hf
      refine ca_Model_82 hC hK hG (c_Model_within hc23_24) hl.1 ⟨Nat.le_of_ble_eq_true rfl, Nat.le_of_ble_eq_true rfl⟩ ⟨Nat.zero_le _, Nat.zero_le _⟩ (Nat.le_of_ble_eq_true rfl) d_Model_put_23 ?_
      refine lv_if_eq hx hb d_Model_put_26 rfl (fun h26_27 => ?_) (fun h26_27 => ?_)
      · have hf := sm_t h26_27 hf
        exact jw_Model_put_53 hC hr hlk hK M a0 a1 a2 a3 a4 hG hl hf
      · have hf := sm_f h26_27 hf
        refine lv_iload hx hb d_Model_put_29 (lv_at hl 4 rfl) ?_
        refine lv_iconst (v := 0) hx hb d_Model_put_31 (by decide) ?_
        refine lv_bipush (v := 31) hx hb d_Model_put_32 (by decide) ?_
        obtain ⟨r34_29, hc34_28, hf⟩ := sm_of_b1 hf
        refine ca_Model_82 hC hK hG (c_Model_within hc34_28) hl.1 ⟨Nat.le_of_ble_eq_true rfl, Nat.le_of_ble_eq_true rfl⟩ ⟨Nat.zero_le _, Nat.zero_le _⟩ (Nat.le_of_ble_eq_true rfl) d_Model_put_34 ?_
        refine lv_if_eq hx hb d_Model_put_37 rfl (fun h37_31 => ?_) (fun h37_31 => ?_)
        · have hf := sm_t h37_31 hf
          exact jw_Model_put_53 hC hr hlk hK M a0 a1 a2 a3 a4 hG hl hf
        · have hf := sm_f h37_31 hf
          refine lv_iload_n hx hb d_Model_put_40 rfl (lv_at hl 2 rfl) ?_
          refine lv_iload hx hb d_Model_put_41 (lv_at hl 5 rfl) ?_
          obtain ⟨r43_33, hc43_32, hf⟩ := sm_of_b1 hf
          refine ca_Model_90 hC hK hG (c_Model_isC hc43_32) hl.1 ⟨Nat.le_of_ble_eq_true rfl, Nat.le_of_ble_eq_true rfl⟩ ⟨Nat.zero_le _, Nat.zero_le _⟩ (Nat.le_of_ble_eq_true rfl) d_Model_put_43 ?_
          refine lv_if_eq hx hb d_Model_put_46 rfl (fun h46_35 => ?_) (fun h46_35 => ?_)
          · have hf := sm_t h46_35 hf
            exact jw_Model_put_53 hC hr hlk hK M a0 a1 a2 a3 a4 hG hl hf
          · have hf := sm_f h46_35 hf
            refine lv_iconst (v := 1) hx hb d_Model_put_49 (by decide) ?_
            refine lv_goto hx hb d_Model_put_50 rfl ?_
            exact jw_Model_put_54 hC hr hlk hK M a0 a1 a2 a3 a4 (1 : Int32) hG hl hf
abbrev w_Model_word : List Cond := Cond.code y_Model_word b_Model_word 3 (some .int) :: sm_AW
abbrev rm_Model_word : Room := { frames := 1, cells := 0, slots := 0, locals := 22 }
def j_Model_word_34 (M : sm_M) (y1 : Int32) (y2 : Int32) (z0 : Int32) : Option (Int32 × sm_M) :=
sm_nm (sm_up M 68 0 z0) fun M34_7 =>
(if (M34_7 68 0) ≤ 0 then
sm_gd (((2 : Int32) * y1) + (1 : Int32)) 8 (
sm_gd ((((48 : Int32) * y1) + (24 : Int32)) + (M34_7 70 (Int32.toNatClampNeg (((2 : Int32) * y1) + (1 : Int32))))) 192 (
sm_nm (sm_up M34_7 69 (Int32.toNatClampNeg ((((48 : Int32) * y1) + (24 : Int32)) + (M34_7 70 (Int32.toNatClampNeg (((2 : Int32) * y1) + (1 : Int32)))))) y2) fun M69_11 =>
sm_gd (((2 : Int32) * y1) + (1 : Int32)) 8 (
sm_gd (((2 : Int32) * y1) + (1 : Int32)) 8 (
sm_nm (sm_up M69_11 70 (Int32.toNatClampNeg (((2 : Int32) * y1) + (1 : Int32))) ((M69_11 70 (Int32.toNatClampNeg (((2 : Int32) * y1) + (1 : Int32)))) + (1 : Int32))) fun M83_14 =>
sm_gd (((2 : Int32) * y1) + (1 : Int32)) 8 (
(some ((M83_14 70 (Int32.toNatClampNeg (((2 : Int32) * y1) + (1 : Int32)))) - (1 : Int32), M83_14)))))))
else
(some ((0 : Int32), M34_7)))
def f_Model_word (M : sm_M) (a0 : Int32) (a1 : Int32) : Option (Int32 × sm_M) :=
sm_b1 (f_Model_within a0 (0 : Int32) (3 : Int32)) fun r4_2 =>
(if r4_2 = 0 then
j_Model_word_34 M a0 a1 (1 : Int32)
else
sm_gd (((2 : Int32) * a0) + (1 : Int32)) 8 (
(if (M 70 (Int32.toNatClampNeg (((2 : Int32) * a0) + (1 : Int32)))) = (12 : Int32) then
j_Model_word_34 M a0 a1 (2 : Int32)
else
j_Model_word_34 M a0 a1 (0 : Int32))))
set_option maxHeartbeats 4000000 in
set_option maxRecDepth 100000 in
theorem jw_Model_word_34 {p : Program} {l : Launch} {e : Env} {s : State} {m : MethodId} {args : Array Value} {below : List Frame} {meth : Method} {c : Code} {v : sm_V} {o : sm_O} {r : Int32} {M' : sm_M} (hC : CallFix p m c b_Model_word 3 s args w_Model_word R_Model) (hr : meth.sig.returnType = some .int) (hlk : meth.locks = false) (hK : sm_K v s) (M : sm_M) (y1 : Int32) (y2 : Int32) (z0 : Int32) {H : Heap} {locs : List Loc} {ls : Array Slot} (hG : sm_G v M o s H locs) (hl : lv_has ls 3 [(0, .ref (sm_a v 68)), (1, .int y1), (2, .int y2)]) (hf : j_Model_word_34 M y1 y2 z0 = some (r, M')) : W p l e rm_Model_word s m args below meth c H locs 0 0 (MQ below (sm_Qi v M' o r) args s 0 0 (sm_A v)) (F0 m 34 ls [.int z0, .ref (sm_a v 68)]) := by
  have hx := hC.1
  have hb := hC.2.1
  unfold j_Model_word_34 at hf
  refine pf_Model_74 hC hK hG d_Model_word_34 (fun M34_7 H locs eM34_7 hG => ?_)
  have hf := sm_of eM34_7 hf
  refine lv_aload_n hx hb d_Model_word_37 rfl (lv_at hl 0 rfl) ?_
  refine gf_Model_74 hC hK hG d_Model_word_38 ?_
  refine lv_if_le hx hb d_Model_word_41 rfl (fun h41_8 => ?_) (fun h41_8 => ?_)
  · have hf := sm_t h41_8 hf
    refine lv_aload_n hx hb d_Model_word_46 rfl (lv_at hl 0 rfl) ?_
    refine gf_Model_7 hC hK hG d_Model_word_47 ?_
    refine lv_bipush (v := 48) hx hb d_Model_word_50 (by decide) ?_
    refine lv_iload_n hx hb d_Model_word_52 rfl (lv_at hl 1 rfl) ?_
    refine lv_imul hx hb d_Model_word_53 ?_
    refine lv_bipush (v := 24) hx hb d_Model_word_54 (by decide) ?_
    refine lv_iadd hx hb d_Model_word_56 ?_
    refine lv_aload_n hx hb d_Model_word_57 rfl (lv_at hl 0 rfl) ?_
    refine gf_Model_13 hC hK hG d_Model_word_58 ?_
    refine lv_iconst (v := 2) hx hb d_Model_word_61 (by decide) ?_
    refine lv_iload_n hx hb d_Model_word_62 rfl (lv_at hl 1 rfl) ?_
    refine lv_imul hx hb d_Model_word_63 ?_
    refine lv_iconst (v := 1) hx hb d_Model_word_64 (by decide) ?_
    refine lv_iadd hx hb d_Model_word_65 ?_
    obtain ⟨h66_9, hf⟩ := sm_of_gd hf
    refine sm_iald hC hK hG (by decide) rfl h66_9 d_Model_word_66 ?_
    refine lv_iadd hx hb d_Model_word_67 ?_
    refine lv_iload_n hx hb d_Model_word_68 rfl (lv_at hl 2 rfl) ?_
    obtain ⟨h69_10, hf⟩ := sm_of_gd hf
    refine sm_iast hC hK hG (by decide) rfl h69_10 d_Model_word_69 (fun M69_11 H locs eM69_11 hG => ?_)
    have hf := sm_of eM69_11 hf
    refine lv_aload_n hx hb d_Model_word_70 rfl (lv_at hl 0 rfl) ?_
    refine gf_Model_13 hC hK hG d_Model_word_71 ?_
    refine lv_iconst (v := 2) hx hb d_Model_word_74 (by decide) ?_
    refine lv_iload_n hx hb d_Model_word_75 rfl (lv_at hl 1 rfl) ?_
    refine lv_imul hx hb d_Model_word_76 ?_
    refine lv_iconst (v := 1) hx hb d_Model_word_77 (by decide) ?_
    refine lv_iadd hx hb d_Model_word_78 ?_
    refine lv_dup2_11 hx hb d_Model_word_79 rfl rfl ?_
    obtain ⟨h80_12, hf⟩ := sm_of_gd hf
    refine sm_iald hC hK hG (by decide) rfl h80_12 d_Model_word_80 ?_
    refine lv_iconst (v := 1) hx hb d_Model_word_81 (by decide) ?_
    refine lv_iadd hx hb d_Model_word_82 ?_
    obtain ⟨h83_13, hf⟩ := sm_of_gd hf
    refine sm_iast hC hK hG (by decide) rfl h83_13 d_Model_word_83 (fun M83_14 H locs eM83_14 hG => ?_)
    have hf := sm_of eM83_14 hf
    refine lv_aload_n hx hb d_Model_word_84 rfl (lv_at hl 0 rfl) ?_
    refine gf_Model_13 hC hK hG d_Model_word_85 ?_
    refine lv_iconst (v := 2) hx hb d_Model_word_88 (by decide) ?_
    refine lv_iload_n hx hb d_Model_word_89 rfl (lv_at hl 1 rfl) ?_
    refine lv_imul hx hb d_Model_word_90 ?_
    refine lv_iconst (v := 1) hx hb d_Model_word_91 (by decide) ?_
    refine lv_iadd hx hb d_Model_word_92 ?_
    obtain ⟨h93_15, hf⟩ := sm_of_gd hf
    refine sm_iald hC hK hG (by decide) rfl h93_15 d_Model_word_93 ?_
    refine lv_iconst (v := 1) hx hb d_Model_word_94 (by decide) ?_
    refine lv_isub hx hb d_Model_word_95 ?_
    obtain ⟨rfl, rfl⟩ := Prod.mk.inj (Option.some.inj hf)
    exact sm_iret hC hr hlk hG d_Model_word_96
  · have hf := sm_f h41_8 hf
    refine lv_iconst (v := 0) hx hb d_Model_word_44 (by decide) ?_
    obtain ⟨rfl, rfl⟩ := Prod.mk.inj (Option.some.inj hf)
    exact sm_iret hC hr hlk hG d_Model_word_45
set_option maxHeartbeats 4000000 in
set_option maxRecDepth 100000 in
theorem c_Model_word {l : Launch} {v : sm_V} {o : sm_O} {M : sm_M} {a0 : Int32} {a1 : Int32} {r : Int32} {M' : sm_M} (hf : f_Model_word M a0 a1 = some (r, M')) : sm_Ci l y_Model_word w_Model_word rm_Model_word v [.ref (sm_a v 68), .int a0, .int a1] M o r M' := by
  refine sm_met (cc := b_Model_word) (nL := 3) (ret := some .int) (plainFor_of_name (by decide)) rfl (Nat.le_of_ble_eq_true rfl) (fun p e s m args below meth c hC hr hlk hK hG ls hl => ?_)
  have hx := hC.1
  have hb := hC.2.1
  have hl : lv_has ls 3 [(0, .ref (sm_a v 68)), (1, .int a0), (2, .int a1)] := hl
  unfold f_Model_word at hf
  refine lv_aload_n hx hb d_Model_word_0 rfl (lv_at hl 0 rfl) ?_
  refine lv_iload_n hx hb d_Model_word_1 rfl (lv_at hl 1 rfl) ?_
  refine lv_iconst (v := 0) hx hb d_Model_word_2 (by decide) ?_
  refine lv_iconst (v := 3) hx hb d_Model_word_3 (by decide) ?_
  obtain ⟨r4_2, hc4_1, hf⟩ := sm_of_b1 hf
  refine ca_Model_82 hC hK hG (c_Model_within hc4_1) hl.1 ⟨Nat.le_of_ble_eq_true rfl, Nat.le_of_ble_eq_true rfl⟩ ⟨Nat.zero_le _, Nat.zero_le _⟩ (Nat.le_of_ble_eq_true rfl) d_Model_word_4 ?_
  refine lv_if_ne hx hb d_Model_word_7 rfl (fun h7_4 => ?_) (fun h7_4 => ?_)
  · have hf := sm_f h7_4 hf
    refine lv_aload_n hx hb d_Model_word_14 rfl (lv_at hl 0 rfl) ?_
    refine gf_Model_13 hC hK hG d_Model_word_15 ?_
    refine lv_iconst (v := 2) hx hb d_Model_word_18 (by decide) ?_
    refine lv_iload_n hx hb d_Model_word_19 rfl (lv_at hl 1 rfl) ?_
    refine lv_imul hx hb d_Model_word_20 ?_
    refine lv_iconst (v := 1) hx hb d_Model_word_21 (by decide) ?_
    refine lv_iadd hx hb d_Model_word_22 ?_
    obtain ⟨h23_5, hf⟩ := sm_of_gd hf
    refine sm_iald hC hK hG (by decide) rfl h23_5 d_Model_word_23 ?_
    refine lv_bipush (v := 12) hx hb d_Model_word_24 (by decide) ?_
    refine lv_icmp_ne hx hb d_Model_word_26 rfl (fun h26_6 => ?_) (fun h26_6 => ?_)
    · have hf := sm_f h26_6 hf
      refine lv_iconst (v := 0) hx hb d_Model_word_33 (by decide) ?_
      exact jw_Model_word_34 hC hr hlk hK M a0 a1 (0 : Int32) hG hl hf
    · have hf := sm_t h26_6 hf
      refine lv_iconst (v := 2) hx hb d_Model_word_29 (by decide) ?_
      refine lv_goto hx hb d_Model_word_30 rfl ?_
      exact jw_Model_word_34 hC hr hlk hK M a0 a1 (2 : Int32) hG hl hf
  · have hf := sm_t h7_4 hf
    refine lv_iconst (v := 1) hx hb d_Model_word_10 (by decide) ?_
    refine lv_goto hx hb d_Model_word_11 rfl ?_
    exact jw_Model_word_34 hC hr hlk hK M a0 a1 (1 : Int32) hG hl hf
abbrev w_Model_define : List Cond := Cond.code y_Model_define b_Model_define 8 (some .int) :: sm_AW
abbrev rm_Model_define : Room := { frames := 1, cells := 0, slots := 0, locals := 22 }
def j_Model_define_84 (M : sm_M) (y1 : Int32) (y2 : Int32) (y3 : Int32) (y4 : Int32) (y5 : Int32) (z0 : Int32) : Option (Int32 × sm_M) :=
sm_nm (sm_up M 68 0 z0) fun M84_8 =>
(if (M84_8 68 0) ≤ 0 then
sm_gd y1 4 (
sm_nm (((8 : Int32) * y1) + (M84_8 71 (Int32.toNatClampNeg y1))) fun x107_11 =>
sm_gd x107_11 32 (
sm_nm (sm_up M84_8 72 (Int32.toNatClampNeg x107_11) y2) fun M116_13 =>
sm_gd x107_11 32 (
sm_nm (sm_up M116_13 73 (Int32.toNatClampNeg x107_11) y3) fun M124_15 =>
sm_gd x107_11 32 (
sm_nm (sm_up M124_15 74 (Int32.toNatClampNeg x107_11) y4) fun M133_17 =>
sm_gd x107_11 32 (
sm_nm (sm_up M133_17 75 (Int32.toNatClampNeg x107_11) (vp_nar .boolean y5)) fun M142_19 =>
sm_gd y1 4 (
sm_gd y1 4 (
sm_nm (sm_up M142_19 71 (Int32.toNatClampNeg y1) ((M142_19 71 (Int32.toNatClampNeg y1)) + (1 : Int32))) fun M152_22 =>
sm_gd y1 4 (
(some (M152_22 71 (Int32.toNatClampNeg y1), M152_22))))))))))
else
(some ((0 : Int32), M84_8)))
def j_Model_define_56 (M : sm_M) (y1 : Int32) (y2 : Int32) (y3 : Int32) (y4 : Int32) (y5 : Int32) (z0 : Int32) : Option (Int32 × sm_M) :=
(if z0 = 0 then
j_Model_define_84 M y1 y2 y3 y4 y5 (1 : Int32)
else
sm_gd y1 4 (
(if (M 71 (Int32.toNatClampNeg y1)) = (8 : Int32) then
j_Model_define_84 M y1 y2 y3 y4 y5 (2 : Int32)
else
j_Model_define_84 M y1 y2 y3 y4 y5 (0 : Int32))))
def j_Model_define_55 (M : sm_M) (y1 : Int32) (y2 : Int32) (y3 : Int32) (y4 : Int32) (y5 : Int32) : Option (Int32 × sm_M) :=
j_Model_define_56 M y1 y2 y3 y4 y5 (0 : Int32)
def f_Model_define (M : sm_M) (a0 : Int32) (a1 : Int32) (a2 : Int32) (a3 : Int32) (a4 : Int32) : Option (Int32 × sm_M) :=
sm_b1 (f_Model_within a0 (0 : Int32) (3 : Int32)) fun r3_2 =>
(if r3_2 = 0 then
j_Model_define_55 M a0 a1 a2 a3 a4
else
sm_b1 (f_Model_within a1 (0 : Int32) (15 : Int32)) fun r13_25 =>
(if r13_25 = 0 then
j_Model_define_55 M a0 a1 a2 a3 a4
else
sm_b1 (f_Model_within a2 (0 : Int32) (1 : Int32)) fun r22_29 =>
(if r22_29 = 0 then
j_Model_define_55 M a0 a1 a2 a3 a4
else
sm_gd (((2 : Int32) * (a0 &&& (3 : Int32))) + (a2 &&& (1 : Int32))) 8 (
sm_b1 (f_Model_within a3 (0 : Int32) (M 70 (Int32.toNatClampNeg (((2 : Int32) * (a0 &&& (3 : Int32))) + (a2 &&& (1 : Int32)))))) fun r45_34 =>
(if r45_34 = 0 then
j_Model_define_55 M a0 a1 a2 a3 a4
else
j_Model_define_56 M a0 a1 a2 a3 a4 (1 : Int32))))))
set_option maxHeartbeats 4000000 in
set_option maxRecDepth 100000 in
theorem jw_Model_define_84 {p : Program} {l : Launch} {e : Env} {s : State} {m : MethodId} {args : Array Value} {below : List Frame} {meth : Method} {c : Code} {v : sm_V} {o : sm_O} {r : Int32} {M' : sm_M} (hC : CallFix p m c b_Model_define 8 s args w_Model_define R_Model) (hr : meth.sig.returnType = some .int) (hlk : meth.locks = false) (hK : sm_K v s) (M : sm_M) (y1 : Int32) (y2 : Int32) (y3 : Int32) (y4 : Int32) (y5 : Int32) (z0 : Int32) {H : Heap} {locs : List Loc} {ls : Array Slot} (hG : sm_G v M o s H locs) (hl : lv_has ls 8 [(0, .ref (sm_a v 68)), (1, .int y1), (2, .int y2), (3, .int y3), (4, .int y4), (5, .int y5)]) (hf : j_Model_define_84 M y1 y2 y3 y4 y5 z0 = some (r, M')) : W p l e rm_Model_define s m args below meth c H locs 0 0 (MQ below (sm_Qi v M' o r) args s 0 0 (sm_A v)) (F0 m 84 ls [.int z0, .ref (sm_a v 68)]) := by
  have hx := hC.1
  have hb := hC.2.1
  unfold j_Model_define_84 at hf
  refine pf_Model_74 hC hK hG d_Model_define_84 (fun M84_8 H locs eM84_8 hG => ?_)
  have hf := sm_of eM84_8 hf
  refine lv_aload_n hx hb d_Model_define_87 rfl (lv_at hl 0 rfl) ?_
  refine gf_Model_74 hC hK hG d_Model_define_88 ?_
  refine lv_if_le hx hb d_Model_define_91 rfl (fun h91_9 => ?_) (fun h91_9 => ?_)
  · have hf := sm_t h91_9 hf
    refine lv_bipush (v := 8) hx hb d_Model_define_96 (by decide) ?_
    refine lv_iload_n hx hb d_Model_define_98 rfl (lv_at hl 1 rfl) ?_
    refine lv_imul hx hb d_Model_define_99 ?_
    refine lv_aload_n hx hb d_Model_define_100 rfl (lv_at hl 0 rfl) ?_
    refine gf_Model_16 hC hK hG d_Model_define_101 ?_
    refine lv_iload_n hx hb d_Model_define_104 rfl (lv_at hl 1 rfl) ?_
    obtain ⟨h105_10, hf⟩ := sm_of_gd hf
    refine sm_iald hC hK hG (by decide) rfl h105_10 d_Model_define_105 ?_
    refine lv_iadd hx hb d_Model_define_106 ?_
    refine lv_topi (fun x107_11 ex107_11 => ?_)
    have hf := sm_of ex107_11 hf
    refine lv_istore hx hb d_Model_define_107 hl (Nat.le_of_ble_eq_true rfl) rfl (fun ls hl => ?_)
    have hl : lv_has ls 8 [(7, .int x107_11), (0, .ref (sm_a v 68)), (1, .int y1), (2, .int y2), (3, .int y3), (4, .int y4), (5, .int y5)] := hl
    refine lv_aload_n hx hb d_Model_define_109 rfl (lv_at hl 1 rfl) ?_
    refine gf_Model_19 hC hK hG d_Model_define_110 ?_
    refine lv_iload hx hb d_Model_define_113 (lv_at hl 0 rfl) ?_
    refine lv_iload_n hx hb d_Model_define_115 rfl (lv_at hl 3 rfl) ?_
    obtain ⟨h116_12, hf⟩ := sm_of_gd hf
    refine sm_iast hC hK hG (by decide) rfl h116_12 d_Model_define_116 (fun M116_13 H locs eM116_13 hG => ?_)
    have hf := sm_of eM116_13 hf
    refine lv_aload_n hx hb d_Model_define_117 rfl (lv_at hl 1 rfl) ?_
    refine gf_Model_22 hC hK hG d_Model_define_118 ?_
    refine lv_iload hx hb d_Model_define_121 (lv_at hl 0 rfl) ?_
    refine lv_iload_n hx hb d_Model_define_123 rfl (lv_at hl 4 rfl) ?_
    obtain ⟨h124_14, hf⟩ := sm_of_gd hf
    refine sm_iast hC hK hG (by decide) rfl h124_14 d_Model_define_124 (fun M124_15 H locs eM124_15 hG => ?_)
    have hf := sm_of eM124_15 hf
    refine lv_aload_n hx hb d_Model_define_125 rfl (lv_at hl 1 rfl) ?_
    refine gf_Model_25 hC hK hG d_Model_define_126 ?_
    refine lv_iload hx hb d_Model_define_129 (lv_at hl 0 rfl) ?_
    refine lv_iload hx hb d_Model_define_131 (lv_at hl 5 rfl) ?_
    obtain ⟨h133_16, hf⟩ := sm_of_gd hf
    refine sm_iast hC hK hG (by decide) rfl h133_16 d_Model_define_133 (fun M133_17 H locs eM133_17 hG => ?_)
    have hf := sm_of eM133_17 hf
    refine lv_aload_n hx hb d_Model_define_134 rfl (lv_at hl 1 rfl) ?_
    refine gf_Model_28 hC hK hG d_Model_define_135 ?_
    refine lv_iload hx hb d_Model_define_138 (lv_at hl 0 rfl) ?_
    refine lv_iload hx hb d_Model_define_140 (lv_at hl 6 rfl) ?_
    obtain ⟨h142_18, hf⟩ := sm_of_gd hf
    refine sm_zast hC hK hG (by decide) rfl h142_18 d_Model_define_142 (fun M142_19 H locs eM142_19 hG => ?_)
    have hf := sm_of eM142_19 hf
    refine lv_aload_n hx hb d_Model_define_143 rfl (lv_at hl 1 rfl) ?_
    refine gf_Model_16 hC hK hG d_Model_define_144 ?_
    refine lv_iload_n hx hb d_Model_define_147 rfl (lv_at hl 2 rfl) ?_
    refine lv_dup2_11 hx hb d_Model_define_148 rfl rfl ?_
    obtain ⟨h149_20, hf⟩ := sm_of_gd hf
    refine sm_iald hC hK hG (by decide) rfl h149_20 d_Model_define_149 ?_
    refine lv_iconst (v := 1) hx hb d_Model_define_150 (by decide) ?_
    refine lv_iadd hx hb d_Model_define_151 ?_
    obtain ⟨h152_21, hf⟩ := sm_of_gd hf
    refine sm_iast hC hK hG (by decide) rfl h152_21 d_Model_define_152 (fun M152_22 H locs eM152_22 hG => ?_)
    have hf := sm_of eM152_22 hf
    refine lv_aload_n hx hb d_Model_define_153 rfl (lv_at hl 1 rfl) ?_
    refine gf_Model_16 hC hK hG d_Model_define_154 ?_
    refine lv_iload_n hx hb d_Model_define_157 rfl (lv_at hl 2 rfl) ?_
    obtain ⟨h158_23, hf⟩ := sm_of_gd hf
    refine sm_iald hC hK hG (by decide) rfl h158_23 d_Model_define_158 ?_
    obtain ⟨rfl, rfl⟩ := Prod.mk.inj (Option.some.inj hf)
    exact sm_iret hC hr hlk hG d_Model_define_159
  · have hf := sm_f h91_9 hf
    refine lv_iconst (v := 0) hx hb d_Model_define_94 (by decide) ?_
    obtain ⟨rfl, rfl⟩ := Prod.mk.inj (Option.some.inj hf)
    exact sm_iret hC hr hlk hG d_Model_define_95
set_option maxHeartbeats 4000000 in
set_option maxRecDepth 100000 in
theorem jw_Model_define_56 {p : Program} {l : Launch} {e : Env} {s : State} {m : MethodId} {args : Array Value} {below : List Frame} {meth : Method} {c : Code} {v : sm_V} {o : sm_O} {r : Int32} {M' : sm_M} (hC : CallFix p m c b_Model_define 8 s args w_Model_define R_Model) (hr : meth.sig.returnType = some .int) (hlk : meth.locks = false) (hK : sm_K v s) (M : sm_M) (y1 : Int32) (y2 : Int32) (y3 : Int32) (y4 : Int32) (y5 : Int32) (z0 : Int32) {H : Heap} {locs : List Loc} {ls : Array Slot} (hG : sm_G v M o s H locs) (hl : lv_has ls 8 [(0, .ref (sm_a v 68)), (1, .int y1), (2, .int y2), (3, .int y3), (4, .int y4), (5, .int y5)]) (hf : j_Model_define_56 M y1 y2 y3 y4 y5 z0 = some (r, M')) : W p l e rm_Model_define s m args below meth c H locs 0 0 (MQ below (sm_Qi v M' o r) args s 0 0 (sm_A v)) (F0 m 56 ls [.int z0]) := by
  have hx := hC.1
  have hb := hC.2.1
  unfold j_Model_define_56 at hf
  refine lv_istore hx hb d_Model_define_56 hl (Nat.le_of_ble_eq_true rfl) rfl (fun ls hl => ?_)
  have hl : lv_has ls 8 [(6, .int z0), (0, .ref (sm_a v 68)), (1, .int y1), (2, .int y2), (3, .int y3), (4, .int y4), (5, .int y5)] := hl
  refine lv_aload_n hx hb d_Model_define_58 rfl (lv_at hl 1 rfl) ?_
  refine lv_iload hx hb d_Model_define_59 (lv_at hl 0 rfl) ?_
  refine lv_if_ne hx hb d_Model_define_61 rfl (fun h61_5 => ?_) (fun h61_5 => ?_)
  · have hf := sm_f h61_5 hf
    refine lv_aload_n hx hb d_Model_define_68 rfl (lv_at hl 1 rfl) ?_
    refine gf_Model_16 hC hK hG d_Model_define_69 ?_
    refine lv_iload_n hx hb d_Model_define_72 rfl (lv_at hl 2 rfl) ?_
    obtain ⟨h73_6, hf⟩ := sm_of_gd hf
    refine sm_iald hC hK hG (by decide) rfl h73_6 d_Model_define_73 ?_
    refine lv_bipush (v := 8) hx hb d_Model_define_74 (by decide) ?_
    refine lv_icmp_ne hx hb d_Model_define_76 rfl (fun h76_7 => ?_) (fun h76_7 => ?_)
    · have hf := sm_f h76_7 hf
      refine lv_iconst (v := 0) hx hb d_Model_define_83 (by decide) ?_
      exact jw_Model_define_84 hC hr hlk hK M y1 y2 y3 y4 y5 (0 : Int32) hG (lv_sub hl [1, 2, 3, 4, 5, 6] rfl) hf
    · have hf := sm_t h76_7 hf
      refine lv_iconst (v := 2) hx hb d_Model_define_79 (by decide) ?_
      refine lv_goto hx hb d_Model_define_80 rfl ?_
      exact jw_Model_define_84 hC hr hlk hK M y1 y2 y3 y4 y5 (2 : Int32) hG (lv_sub hl [1, 2, 3, 4, 5, 6] rfl) hf
  · have hf := sm_t h61_5 hf
    refine lv_iconst (v := 1) hx hb d_Model_define_64 (by decide) ?_
    refine lv_goto hx hb d_Model_define_65 rfl ?_
    exact jw_Model_define_84 hC hr hlk hK M y1 y2 y3 y4 y5 (1 : Int32) hG (lv_sub hl [1, 2, 3, 4, 5, 6] rfl) hf
set_option maxHeartbeats 4000000 in
set_option maxRecDepth 100000 in
theorem jw_Model_define_55 {p : Program} {l : Launch} {e : Env} {s : State} {m : MethodId} {args : Array Value} {below : List Frame} {meth : Method} {c : Code} {v : sm_V} {o : sm_O} {r : Int32} {M' : sm_M} (hC : CallFix p m c b_Model_define 8 s args w_Model_define R_Model) (hr : meth.sig.returnType = some .int) (hlk : meth.locks = false) (hK : sm_K v s) (M : sm_M) (y1 : Int32) (y2 : Int32) (y3 : Int32) (y4 : Int32) (y5 : Int32) {H : Heap} {locs : List Loc} {ls : Array Slot} (hG : sm_G v M o s H locs) (hl : lv_has ls 8 [(0, .ref (sm_a v 68)), (1, .int y1), (2, .int y2), (3, .int y3), (4, .int y4), (5, .int y5)]) (hf : j_Model_define_55 M y1 y2 y3 y4 y5 = some (r, M')) : W p l e rm_Model_define s m args below meth c H locs 0 0 (MQ below (sm_Qi v M' o r) args s 0 0 (sm_A v)) (F0 m 55 ls []) := by
  have hx := hC.1
  have hb := hC.2.1
  unfold j_Model_define_55 at hf
  refine lv_iconst (v := 0) hx hb d_Model_define_55 (by decide) ?_
  exact jw_Model_define_56 hC hr hlk hK M y1 y2 y3 y4 y5 (0 : Int32) hG hl hf
set_option maxHeartbeats 4000000 in
set_option maxRecDepth 100000 in
theorem c_Model_define {l : Launch} {v : sm_V} {o : sm_O} {M : sm_M} {a0 : Int32} {a1 : Int32} {a2 : Int32} {a3 : Int32} {a4 : Int32} {r : Int32} {M' : sm_M} (hf : f_Model_define M a0 a1 a2 a3 a4 = some (r, M')) : sm_Ci l y_Model_define w_Model_define rm_Model_define v [.ref (sm_a v 68), .int a0, .int a1, .int a2, .int a3, .int a4] M o r M' := by
  refine sm_met (cc := b_Model_define) (nL := 8) (ret := some .int) (plainFor_of_name (by decide)) rfl (Nat.le_of_ble_eq_true rfl) (fun p e s m args below meth c hC hr hlk hK hG ls hl => ?_)
  have hx := hC.1
  have hb := hC.2.1
  have hl : lv_has ls 8 [(0, .ref (sm_a v 68)), (1, .int a0), (2, .int a1), (3, .int a2), (4, .int a3), (5, .int a4)] := hl
  unfold f_Model_define at hf
  refine lv_iload_n hx hb d_Model_define_0 rfl (lv_at hl 1 rfl) ?_
  refine lv_iconst (v := 0) hx hb d_Model_define_1 (by decide) ?_
  refine lv_iconst (v := 3) hx hb d_Model_define_2 (by decide) ?_
  obtain ⟨r3_2, hc3_1, hf⟩ := sm_of_b1 hf
  refine ca_Model_82 hC hK hG (c_Model_within hc3_1) hl.1 ⟨Nat.le_of_ble_eq_true rfl, Nat.le_of_ble_eq_true rfl⟩ ⟨Nat.zero_le _, Nat.zero_le _⟩ (Nat.le_of_ble_eq_true rfl) d_Model_define_3 ?_
  refine lv_if_eq hx hb d_Model_define_6 rfl (fun h6_4 => ?_) (fun h6_4 => ?_)
  · have hf := sm_t h6_4 hf
    exact jw_Model_define_55 hC hr hlk hK M a0 a1 a2 a3 a4 hG hl hf
  · have hf := sm_f h6_4 hf
    refine lv_iload_n hx hb d_Model_define_9 rfl (lv_at hl 2 rfl) ?_
    refine lv_iconst (v := 0) hx hb d_Model_define_10 (by decide) ?_
    refine lv_bipush (v := 15) hx hb d_Model_define_11 (by decide) ?_
    obtain ⟨r13_25, hc13_24, hf⟩ := sm_of_b1 hf
    refine ca_Model_82 hC hK hG (c_Model_within hc13_24) hl.1 ⟨Nat.le_of_ble_eq_true rfl, Nat.le_of_ble_eq_true rfl⟩ ⟨Nat.zero_le _, Nat.zero_le _⟩ (Nat.le_of_ble_eq_true rfl) d_Model_define_13 ?_
    refine lv_if_eq hx hb d_Model_define_16 rfl (fun h16_27 => ?_) (fun h16_27 => ?_)
    · have hf := sm_t h16_27 hf
      exact jw_Model_define_55 hC hr hlk hK M a0 a1 a2 a3 a4 hG hl hf
    · have hf := sm_f h16_27 hf
      refine lv_iload_n hx hb d_Model_define_19 rfl (lv_at hl 3 rfl) ?_
      refine lv_iconst (v := 0) hx hb d_Model_define_20 (by decide) ?_
      refine lv_iconst (v := 1) hx hb d_Model_define_21 (by decide) ?_
      obtain ⟨r22_29, hc22_28, hf⟩ := sm_of_b1 hf
      refine ca_Model_82 hC hK hG (c_Model_within hc22_28) hl.1 ⟨Nat.le_of_ble_eq_true rfl, Nat.le_of_ble_eq_true rfl⟩ ⟨Nat.zero_le _, Nat.zero_le _⟩ (Nat.le_of_ble_eq_true rfl) d_Model_define_22 ?_
      refine lv_if_eq hx hb d_Model_define_25 rfl (fun h25_31 => ?_) (fun h25_31 => ?_)
      · have hf := sm_t h25_31 hf
        exact jw_Model_define_55 hC hr hlk hK M a0 a1 a2 a3 a4 hG hl hf
      · have hf := sm_f h25_31 hf
        refine lv_iload hx hb d_Model_define_28 (lv_at hl 4 rfl) ?_
        refine lv_iconst (v := 0) hx hb d_Model_define_30 (by decide) ?_
        refine lv_aload_n hx hb d_Model_define_31 rfl (lv_at hl 0 rfl) ?_
        refine gf_Model_13 hC hK hG d_Model_define_32 ?_
        refine lv_iconst (v := 2) hx hb d_Model_define_35 (by decide) ?_
        refine lv_iload_n hx hb d_Model_define_36 rfl (lv_at hl 1 rfl) ?_
        refine lv_iconst (v := 3) hx hb d_Model_define_37 (by decide) ?_
        refine lv_iand hx hb d_Model_define_38 ?_
        refine lv_imul hx hb d_Model_define_39 ?_
        refine lv_iload_n hx hb d_Model_define_40 rfl (lv_at hl 3 rfl) ?_
        refine lv_iconst (v := 1) hx hb d_Model_define_41 (by decide) ?_
        refine lv_iand hx hb d_Model_define_42 ?_
        refine lv_iadd hx hb d_Model_define_43 ?_
        obtain ⟨h44_32, hf⟩ := sm_of_gd hf
        refine sm_iald hC hK hG (by decide) rfl h44_32 d_Model_define_44 ?_
        obtain ⟨r45_34, hc45_33, hf⟩ := sm_of_b1 hf
        refine ca_Model_82 hC hK hG (c_Model_within hc45_33) hl.1 ⟨Nat.le_of_ble_eq_true rfl, Nat.le_of_ble_eq_true rfl⟩ ⟨Nat.zero_le _, Nat.zero_le _⟩ (Nat.le_of_ble_eq_true rfl) d_Model_define_45 ?_
        refine lv_if_eq hx hb d_Model_define_48 rfl (fun h48_36 => ?_) (fun h48_36 => ?_)
        · have hf := sm_t h48_36 hf
          exact jw_Model_define_55 hC hr hlk hK M a0 a1 a2 a3 a4 hG hl hf
        · have hf := sm_f h48_36 hf
          refine lv_iconst (v := 1) hx hb d_Model_define_51 (by decide) ?_
          refine lv_goto hx hb d_Model_define_52 rfl ?_
          exact jw_Model_define_56 hC hr hlk hK M a0 a1 a2 a3 a4 (1 : Int32) hG hl hf
abbrev w_Model_fix : List Cond := Cond.code y_Model_fix b_Model_fix 9 (some .int) :: sm_AW
abbrev rm_Model_fix : Room := { frames := 1, cells := 0, slots := 0, locals := 22 }
def j_Model_fix_110 (M : sm_M) (y1 : Int32) (y2 : Int32) (y3 : Int32) (y4 : Int32) (y5 : Int32) (y6 : Int32) (z0 : Int32) : Option (Int32 × sm_M) :=
sm_nm (sm_up M 68 0 z0) fun M110_8 =>
(if (M110_8 68 0) ≤ 0 then
sm_gd y1 4 (
sm_nm (((16 : Int32) * y1) + (M110_8 76 (Int32.toNatClampNeg y1))) fun x133_11 =>
sm_gd x133_11 64 (
sm_nm (sm_up M110_8 77 (Int32.toNatClampNeg x133_11) y2) fun M142_13 =>
sm_gd x133_11 64 (
sm_nm (sm_up M142_13 78 (Int32.toNatClampNeg x133_11) y3) fun M150_15 =>
sm_gd x133_11 64 (
sm_nm (sm_up M150_15 79 (Int32.toNatClampNeg x133_11) y4) fun M159_17 =>
sm_gd x133_11 64 (
sm_nm (sm_up M159_17 80 (Int32.toNatClampNeg x133_11) y5) fun M168_19 =>
sm_gd x133_11 64 (
sm_nm (sm_up M168_19 81 (Int32.toNatClampNeg x133_11) y6) fun M177_21 =>
sm_gd y1 4 (
sm_gd y1 4 (
sm_nm (sm_up M177_21 76 (Int32.toNatClampNeg y1) ((M177_21 76 (Int32.toNatClampNeg y1)) + (1 : Int32))) fun M187_24 =>
sm_gd y1 4 (
(some (M187_24 76 (Int32.toNatClampNeg y1), M187_24)))))))))))
else
(some ((0 : Int32), M110_8)))
def j_Model_fix_82 (M : sm_M) (y1 : Int32) (y2 : Int32) (y3 : Int32) (y4 : Int32) (y5 : Int32) (y6 : Int32) (z0 : Int32) : Option (Int32 × sm_M) :=
(if z0 = 0 then
j_Model_fix_110 M y1 y2 y3 y4 y5 y6 (1 : Int32)
else
sm_gd y1 4 (
(if (M 76 (Int32.toNatClampNeg y1)) = (16 : Int32) then
j_Model_fix_110 M y1 y2 y3 y4 y5 y6 (2 : Int32)
else
j_Model_fix_110 M y1 y2 y3 y4 y5 y6 (0 : Int32))))
def j_Model_fix_81 (M : sm_M) (y1 : Int32) (y2 : Int32) (y3 : Int32) (y4 : Int32) (y5 : Int32) (y6 : Int32) : Option (Int32 × sm_M) :=
j_Model_fix_82 M y1 y2 y3 y4 y5 y6 (0 : Int32)
def f_Model_fix (M : sm_M) (a0 : Int32) (a1 : Int32) (a2 : Int32) (a3 : Int32) (a4 : Int32) (a5 : Int32) : Option (Int32 × sm_M) :=
sm_b1 (f_Model_within a0 (0 : Int32) (3 : Int32)) fun r3_2 =>
(if r3_2 = 0 then
j_Model_fix_81 M a0 a1 a2 a3 a4 a5
else
sm_b1 (f_Model_within a1 (0 : Int32) (1 : Int32)) fun r12_27 =>
(if r12_27 = 0 then
j_Model_fix_81 M a0 a1 a2 a3 a4 a5
else
sm_gd (((2 : Int32) * (a0 &&& (3 : Int32))) + (a1 &&& (1 : Int32))) 8 (
sm_b1 (f_Model_within a2 (0 : Int32) ((M 70 (Int32.toNatClampNeg (((2 : Int32) * (a0 &&& (3 : Int32))) + (a1 &&& (1 : Int32))))) - (1 : Int32))) fun r36_32 =>
(if r36_32 = 0 then
j_Model_fix_81 M a0 a1 a2 a3 a4 a5
else
sm_b1 (f_Model_within a3 (0 : Int32) (4 : Int32)) fun r46_36 =>
(if r46_36 = 0 then
j_Model_fix_81 M a0 a1 a2 a3 a4 a5
else
sm_b1 (f_Model_within a4 (0 : Int32) (15 : Int32)) fun r57_40 =>
(if r57_40 = 0 then
j_Model_fix_81 M a0 a1 a2 a3 a4 a5
else
sm_b1 (f_Model_within a5 (-20000 : Int32) (20000 : Int32)) fun r71_44 =>
(if r71_44 = 0 then
j_Model_fix_81 M a0 a1 a2 a3 a4 a5
else
j_Model_fix_82 M a0 a1 a2 a3 a4 a5 (1 : Int32))))))))
set_option maxHeartbeats 4000000 in
set_option maxRecDepth 100000 in
theorem jw_Model_fix_110 {p : Program} {l : Launch} {e : Env} {s : State} {m : MethodId} {args : Array Value} {below : List Frame} {meth : Method} {c : Code} {v : sm_V} {o : sm_O} {r : Int32} {M' : sm_M} (hC : CallFix p m c b_Model_fix 9 s args w_Model_fix R_Model) (hr : meth.sig.returnType = some .int) (hlk : meth.locks = false) (hK : sm_K v s) (M : sm_M) (y1 : Int32) (y2 : Int32) (y3 : Int32) (y4 : Int32) (y5 : Int32) (y6 : Int32) (z0 : Int32) {H : Heap} {locs : List Loc} {ls : Array Slot} (hG : sm_G v M o s H locs) (hl : lv_has ls 9 [(0, .ref (sm_a v 68)), (1, .int y1), (2, .int y2), (3, .int y3), (4, .int y4), (5, .int y5), (6, .int y6)]) (hf : j_Model_fix_110 M y1 y2 y3 y4 y5 y6 z0 = some (r, M')) : W p l e rm_Model_fix s m args below meth c H locs 0 0 (MQ below (sm_Qi v M' o r) args s 0 0 (sm_A v)) (F0 m 110 ls [.int z0, .ref (sm_a v 68)]) := by
  have hx := hC.1
  have hb := hC.2.1
  unfold j_Model_fix_110 at hf
  refine pf_Model_74 hC hK hG d_Model_fix_110 (fun M110_8 H locs eM110_8 hG => ?_)
  have hf := sm_of eM110_8 hf
  refine lv_aload_n hx hb d_Model_fix_113 rfl (lv_at hl 0 rfl) ?_
  refine gf_Model_74 hC hK hG d_Model_fix_114 ?_
  refine lv_if_le hx hb d_Model_fix_117 rfl (fun h117_9 => ?_) (fun h117_9 => ?_)
  · have hf := sm_t h117_9 hf
    refine lv_bipush (v := 16) hx hb d_Model_fix_122 (by decide) ?_
    refine lv_iload_n hx hb d_Model_fix_124 rfl (lv_at hl 1 rfl) ?_
    refine lv_imul hx hb d_Model_fix_125 ?_
    refine lv_aload_n hx hb d_Model_fix_126 rfl (lv_at hl 0 rfl) ?_
    refine gf_Model_32 hC hK hG d_Model_fix_127 ?_
    refine lv_iload_n hx hb d_Model_fix_130 rfl (lv_at hl 1 rfl) ?_
    obtain ⟨h131_10, hf⟩ := sm_of_gd hf
    refine sm_iald hC hK hG (by decide) rfl h131_10 d_Model_fix_131 ?_
    refine lv_iadd hx hb d_Model_fix_132 ?_
    refine lv_topi (fun x133_11 ex133_11 => ?_)
    have hf := sm_of ex133_11 hf
    refine lv_istore hx hb d_Model_fix_133 hl (Nat.le_of_ble_eq_true rfl) rfl (fun ls hl => ?_)
    have hl : lv_has ls 9 [(8, .int x133_11), (0, .ref (sm_a v 68)), (1, .int y1), (2, .int y2), (3, .int y3), (4, .int y4), (5, .int y5), (6, .int y6)] := hl
    refine lv_aload_n hx hb d_Model_fix_135 rfl (lv_at hl 1 rfl) ?_
    refine gf_Model_35 hC hK hG d_Model_fix_136 ?_
    refine lv_iload hx hb d_Model_fix_139 (lv_at hl 0 rfl) ?_
    refine lv_iload_n hx hb d_Model_fix_141 rfl (lv_at hl 3 rfl) ?_
    obtain ⟨h142_12, hf⟩ := sm_of_gd hf
    refine sm_iast hC hK hG (by decide) rfl h142_12 d_Model_fix_142 (fun M142_13 H locs eM142_13 hG => ?_)
    have hf := sm_of eM142_13 hf
    refine lv_aload_n hx hb d_Model_fix_143 rfl (lv_at hl 1 rfl) ?_
    refine gf_Model_38 hC hK hG d_Model_fix_144 ?_
    refine lv_iload hx hb d_Model_fix_147 (lv_at hl 0 rfl) ?_
    refine lv_iload_n hx hb d_Model_fix_149 rfl (lv_at hl 4 rfl) ?_
    obtain ⟨h150_14, hf⟩ := sm_of_gd hf
    refine sm_iast hC hK hG (by decide) rfl h150_14 d_Model_fix_150 (fun M150_15 H locs eM150_15 hG => ?_)
    have hf := sm_of eM150_15 hf
    refine lv_aload_n hx hb d_Model_fix_151 rfl (lv_at hl 1 rfl) ?_
    refine gf_Model_41 hC hK hG d_Model_fix_152 ?_
    refine lv_iload hx hb d_Model_fix_155 (lv_at hl 0 rfl) ?_
    refine lv_iload hx hb d_Model_fix_157 (lv_at hl 5 rfl) ?_
    obtain ⟨h159_16, hf⟩ := sm_of_gd hf
    refine sm_iast hC hK hG (by decide) rfl h159_16 d_Model_fix_159 (fun M159_17 H locs eM159_17 hG => ?_)
    have hf := sm_of eM159_17 hf
    refine lv_aload_n hx hb d_Model_fix_160 rfl (lv_at hl 1 rfl) ?_
    refine gf_Model_44 hC hK hG d_Model_fix_161 ?_
    refine lv_iload hx hb d_Model_fix_164 (lv_at hl 0 rfl) ?_
    refine lv_iload hx hb d_Model_fix_166 (lv_at hl 6 rfl) ?_
    obtain ⟨h168_18, hf⟩ := sm_of_gd hf
    refine sm_iast hC hK hG (by decide) rfl h168_18 d_Model_fix_168 (fun M168_19 H locs eM168_19 hG => ?_)
    have hf := sm_of eM168_19 hf
    refine lv_aload_n hx hb d_Model_fix_169 rfl (lv_at hl 1 rfl) ?_
    refine gf_Model_47 hC hK hG d_Model_fix_170 ?_
    refine lv_iload hx hb d_Model_fix_173 (lv_at hl 0 rfl) ?_
    refine lv_iload hx hb d_Model_fix_175 (lv_at hl 7 rfl) ?_
    obtain ⟨h177_20, hf⟩ := sm_of_gd hf
    refine sm_iast hC hK hG (by decide) rfl h177_20 d_Model_fix_177 (fun M177_21 H locs eM177_21 hG => ?_)
    have hf := sm_of eM177_21 hf
    refine lv_aload_n hx hb d_Model_fix_178 rfl (lv_at hl 1 rfl) ?_
    refine gf_Model_32 hC hK hG d_Model_fix_179 ?_
    refine lv_iload_n hx hb d_Model_fix_182 rfl (lv_at hl 2 rfl) ?_
    refine lv_dup2_11 hx hb d_Model_fix_183 rfl rfl ?_
    obtain ⟨h184_22, hf⟩ := sm_of_gd hf
    refine sm_iald hC hK hG (by decide) rfl h184_22 d_Model_fix_184 ?_
    refine lv_iconst (v := 1) hx hb d_Model_fix_185 (by decide) ?_
    refine lv_iadd hx hb d_Model_fix_186 ?_
    obtain ⟨h187_23, hf⟩ := sm_of_gd hf
    refine sm_iast hC hK hG (by decide) rfl h187_23 d_Model_fix_187 (fun M187_24 H locs eM187_24 hG => ?_)
    have hf := sm_of eM187_24 hf
    refine lv_aload_n hx hb d_Model_fix_188 rfl (lv_at hl 1 rfl) ?_
    refine gf_Model_32 hC hK hG d_Model_fix_189 ?_
    refine lv_iload_n hx hb d_Model_fix_192 rfl (lv_at hl 2 rfl) ?_
    obtain ⟨h193_25, hf⟩ := sm_of_gd hf
    refine sm_iald hC hK hG (by decide) rfl h193_25 d_Model_fix_193 ?_
    obtain ⟨rfl, rfl⟩ := Prod.mk.inj (Option.some.inj hf)
    exact sm_iret hC hr hlk hG d_Model_fix_194
  · have hf := sm_f h117_9 hf
    refine lv_iconst (v := 0) hx hb d_Model_fix_120 (by decide) ?_
    obtain ⟨rfl, rfl⟩ := Prod.mk.inj (Option.some.inj hf)
    exact sm_iret hC hr hlk hG d_Model_fix_121
set_option maxHeartbeats 4000000 in
set_option maxRecDepth 100000 in
theorem jw_Model_fix_82 {p : Program} {l : Launch} {e : Env} {s : State} {m : MethodId} {args : Array Value} {below : List Frame} {meth : Method} {c : Code} {v : sm_V} {o : sm_O} {r : Int32} {M' : sm_M} (hC : CallFix p m c b_Model_fix 9 s args w_Model_fix R_Model) (hr : meth.sig.returnType = some .int) (hlk : meth.locks = false) (hK : sm_K v s) (M : sm_M) (y1 : Int32) (y2 : Int32) (y3 : Int32) (y4 : Int32) (y5 : Int32) (y6 : Int32) (z0 : Int32) {H : Heap} {locs : List Loc} {ls : Array Slot} (hG : sm_G v M o s H locs) (hl : lv_has ls 9 [(0, .ref (sm_a v 68)), (1, .int y1), (2, .int y2), (3, .int y3), (4, .int y4), (5, .int y5), (6, .int y6)]) (hf : j_Model_fix_82 M y1 y2 y3 y4 y5 y6 z0 = some (r, M')) : W p l e rm_Model_fix s m args below meth c H locs 0 0 (MQ below (sm_Qi v M' o r) args s 0 0 (sm_A v)) (F0 m 82 ls [.int z0]) := by
  have hx := hC.1
  have hb := hC.2.1
  unfold j_Model_fix_82 at hf
  refine lv_istore hx hb d_Model_fix_82 hl (Nat.le_of_ble_eq_true rfl) rfl (fun ls hl => ?_)
  have hl : lv_has ls 9 [(7, .int z0), (0, .ref (sm_a v 68)), (1, .int y1), (2, .int y2), (3, .int y3), (4, .int y4), (5, .int y5), (6, .int y6)] := hl
  refine lv_aload_n hx hb d_Model_fix_84 rfl (lv_at hl 1 rfl) ?_
  refine lv_iload hx hb d_Model_fix_85 (lv_at hl 0 rfl) ?_
  refine lv_if_ne hx hb d_Model_fix_87 rfl (fun h87_5 => ?_) (fun h87_5 => ?_)
  · have hf := sm_f h87_5 hf
    refine lv_aload_n hx hb d_Model_fix_94 rfl (lv_at hl 1 rfl) ?_
    refine gf_Model_32 hC hK hG d_Model_fix_95 ?_
    refine lv_iload_n hx hb d_Model_fix_98 rfl (lv_at hl 2 rfl) ?_
    obtain ⟨h99_6, hf⟩ := sm_of_gd hf
    refine sm_iald hC hK hG (by decide) rfl h99_6 d_Model_fix_99 ?_
    refine lv_bipush (v := 16) hx hb d_Model_fix_100 (by decide) ?_
    refine lv_icmp_ne hx hb d_Model_fix_102 rfl (fun h102_7 => ?_) (fun h102_7 => ?_)
    · have hf := sm_f h102_7 hf
      refine lv_iconst (v := 0) hx hb d_Model_fix_109 (by decide) ?_
      exact jw_Model_fix_110 hC hr hlk hK M y1 y2 y3 y4 y5 y6 (0 : Int32) hG (lv_sub hl [1, 2, 3, 4, 5, 6, 7] rfl) hf
    · have hf := sm_t h102_7 hf
      refine lv_iconst (v := 2) hx hb d_Model_fix_105 (by decide) ?_
      refine lv_goto hx hb d_Model_fix_106 rfl ?_
      exact jw_Model_fix_110 hC hr hlk hK M y1 y2 y3 y4 y5 y6 (2 : Int32) hG (lv_sub hl [1, 2, 3, 4, 5, 6, 7] rfl) hf
  · have hf := sm_t h87_5 hf
    refine lv_iconst (v := 1) hx hb d_Model_fix_90 (by decide) ?_
    refine lv_goto hx hb d_Model_fix_91 rfl ?_
    exact jw_Model_fix_110 hC hr hlk hK M y1 y2 y3 y4 y5 y6 (1 : Int32) hG (lv_sub hl [1, 2, 3, 4, 5, 6, 7] rfl) hf
set_option maxHeartbeats 4000000 in
set_option maxRecDepth 100000 in
theorem jw_Model_fix_81 {p : Program} {l : Launch} {e : Env} {s : State} {m : MethodId} {args : Array Value} {below : List Frame} {meth : Method} {c : Code} {v : sm_V} {o : sm_O} {r : Int32} {M' : sm_M} (hC : CallFix p m c b_Model_fix 9 s args w_Model_fix R_Model) (hr : meth.sig.returnType = some .int) (hlk : meth.locks = false) (hK : sm_K v s) (M : sm_M) (y1 : Int32) (y2 : Int32) (y3 : Int32) (y4 : Int32) (y5 : Int32) (y6 : Int32) {H : Heap} {locs : List Loc} {ls : Array Slot} (hG : sm_G v M o s H locs) (hl : lv_has ls 9 [(0, .ref (sm_a v 68)), (1, .int y1), (2, .int y2), (3, .int y3), (4, .int y4), (5, .int y5), (6, .int y6)]) (hf : j_Model_fix_81 M y1 y2 y3 y4 y5 y6 = some (r, M')) : W p l e rm_Model_fix s m args below meth c H locs 0 0 (MQ below (sm_Qi v M' o r) args s 0 0 (sm_A v)) (F0 m 81 ls []) := by
  have hx := hC.1
  have hb := hC.2.1
  unfold j_Model_fix_81 at hf
  refine lv_iconst (v := 0) hx hb d_Model_fix_81 (by decide) ?_
  exact jw_Model_fix_82 hC hr hlk hK M y1 y2 y3 y4 y5 y6 (0 : Int32) hG hl hf
set_option maxHeartbeats 4000000 in
set_option maxRecDepth 100000 in
theorem c_Model_fix {l : Launch} {v : sm_V} {o : sm_O} {M : sm_M} {a0 : Int32} {a1 : Int32} {a2 : Int32} {a3 : Int32} {a4 : Int32} {a5 : Int32} {r : Int32} {M' : sm_M} (hf : f_Model_fix M a0 a1 a2 a3 a4 a5 = some (r, M')) : sm_Ci l y_Model_fix w_Model_fix rm_Model_fix v [.ref (sm_a v 68), .int a0, .int a1, .int a2, .int a3, .int a4, .int a5] M o r M' := by
  refine sm_met (cc := b_Model_fix) (nL := 9) (ret := some .int) (plainFor_of_name (by decide)) rfl (Nat.le_of_ble_eq_true rfl) (fun p e s m args below meth c hC hr hlk hK hG ls hl => ?_)
  have hx := hC.1
  have hb := hC.2.1
  have hl : lv_has ls 9 [(0, .ref (sm_a v 68)), (1, .int a0), (2, .int a1), (3, .int a2), (4, .int a3), (5, .int a4), (6, .int a5)] := hl
  unfold f_Model_fix at hf
  refine lv_iload_n hx hb d_Model_fix_0 rfl (lv_at hl 1 rfl) ?_
  refine lv_iconst (v := 0) hx hb d_Model_fix_1 (by decide) ?_
  refine lv_iconst (v := 3) hx hb d_Model_fix_2 (by decide) ?_
  obtain ⟨r3_2, hc3_1, hf⟩ := sm_of_b1 hf
  refine ca_Model_82 hC hK hG (c_Model_within hc3_1) hl.1 ⟨Nat.le_of_ble_eq_true rfl, Nat.le_of_ble_eq_true rfl⟩ ⟨Nat.zero_le _, Nat.zero_le _⟩ (Nat.le_of_ble_eq_true rfl) d_Model_fix_3 ?_
  refine lv_if_eq hx hb d_Model_fix_6 rfl (fun h6_4 => ?_) (fun h6_4 => ?_)
  · have hf := sm_t h6_4 hf
    exact jw_Model_fix_81 hC hr hlk hK M a0 a1 a2 a3 a4 a5 hG hl hf
  · have hf := sm_f h6_4 hf
    refine lv_iload_n hx hb d_Model_fix_9 rfl (lv_at hl 2 rfl) ?_
    refine lv_iconst (v := 0) hx hb d_Model_fix_10 (by decide) ?_
    refine lv_iconst (v := 1) hx hb d_Model_fix_11 (by decide) ?_
    obtain ⟨r12_27, hc12_26, hf⟩ := sm_of_b1 hf
    refine ca_Model_82 hC hK hG (c_Model_within hc12_26) hl.1 ⟨Nat.le_of_ble_eq_true rfl, Nat.le_of_ble_eq_true rfl⟩ ⟨Nat.zero_le _, Nat.zero_le _⟩ (Nat.le_of_ble_eq_true rfl) d_Model_fix_12 ?_
    refine lv_if_eq hx hb d_Model_fix_15 rfl (fun h15_29 => ?_) (fun h15_29 => ?_)
    · have hf := sm_t h15_29 hf
      exact jw_Model_fix_81 hC hr hlk hK M a0 a1 a2 a3 a4 a5 hG hl hf
    · have hf := sm_f h15_29 hf
      refine lv_iload_n hx hb d_Model_fix_18 rfl (lv_at hl 3 rfl) ?_
      refine lv_iconst (v := 0) hx hb d_Model_fix_19 (by decide) ?_
      refine lv_aload_n hx hb d_Model_fix_20 rfl (lv_at hl 0 rfl) ?_
      refine gf_Model_13 hC hK hG d_Model_fix_21 ?_
      refine lv_iconst (v := 2) hx hb d_Model_fix_24 (by decide) ?_
      refine lv_iload_n hx hb d_Model_fix_25 rfl (lv_at hl 1 rfl) ?_
      refine lv_iconst (v := 3) hx hb d_Model_fix_26 (by decide) ?_
      refine lv_iand hx hb d_Model_fix_27 ?_
      refine lv_imul hx hb d_Model_fix_28 ?_
      refine lv_iload_n hx hb d_Model_fix_29 rfl (lv_at hl 2 rfl) ?_
      refine lv_iconst (v := 1) hx hb d_Model_fix_30 (by decide) ?_
      refine lv_iand hx hb d_Model_fix_31 ?_
      refine lv_iadd hx hb d_Model_fix_32 ?_
      obtain ⟨h33_30, hf⟩ := sm_of_gd hf
      refine sm_iald hC hK hG (by decide) rfl h33_30 d_Model_fix_33 ?_
      refine lv_iconst (v := 1) hx hb d_Model_fix_34 (by decide) ?_
      refine lv_isub hx hb d_Model_fix_35 ?_
      obtain ⟨r36_32, hc36_31, hf⟩ := sm_of_b1 hf
      refine ca_Model_82 hC hK hG (c_Model_within hc36_31) hl.1 ⟨Nat.le_of_ble_eq_true rfl, Nat.le_of_ble_eq_true rfl⟩ ⟨Nat.zero_le _, Nat.zero_le _⟩ (Nat.le_of_ble_eq_true rfl) d_Model_fix_36 ?_
      refine lv_if_eq hx hb d_Model_fix_39 rfl (fun h39_34 => ?_) (fun h39_34 => ?_)
      · have hf := sm_t h39_34 hf
        exact jw_Model_fix_81 hC hr hlk hK M a0 a1 a2 a3 a4 a5 hG hl hf
      · have hf := sm_f h39_34 hf
        refine lv_iload hx hb d_Model_fix_42 (lv_at hl 4 rfl) ?_
        refine lv_iconst (v := 0) hx hb d_Model_fix_44 (by decide) ?_
        refine lv_iconst (v := 4) hx hb d_Model_fix_45 (by decide) ?_
        obtain ⟨r46_36, hc46_35, hf⟩ := sm_of_b1 hf
        refine ca_Model_82 hC hK hG (c_Model_within hc46_35) hl.1 ⟨Nat.le_of_ble_eq_true rfl, Nat.le_of_ble_eq_true rfl⟩ ⟨Nat.zero_le _, Nat.zero_le _⟩ (Nat.le_of_ble_eq_true rfl) d_Model_fix_46 ?_
        refine lv_if_eq hx hb d_Model_fix_49 rfl (fun h49_38 => ?_) (fun h49_38 => ?_)
        · have hf := sm_t h49_38 hf
          exact jw_Model_fix_81 hC hr hlk hK M a0 a1 a2 a3 a4 a5 hG hl hf
        · have hf := sm_f h49_38 hf
          refine lv_iload hx hb d_Model_fix_52 (lv_at hl 5 rfl) ?_
          refine lv_iconst (v := 0) hx hb d_Model_fix_54 (by decide) ?_
          refine lv_bipush (v := 15) hx hb d_Model_fix_55 (by decide) ?_
          obtain ⟨r57_40, hc57_39, hf⟩ := sm_of_b1 hf
          refine ca_Model_82 hC hK hG (c_Model_within hc57_39) hl.1 ⟨Nat.le_of_ble_eq_true rfl, Nat.le_of_ble_eq_true rfl⟩ ⟨Nat.zero_le _, Nat.zero_le _⟩ (Nat.le_of_ble_eq_true rfl) d_Model_fix_57 ?_
          refine lv_if_eq hx hb d_Model_fix_60 rfl (fun h60_42 => ?_) (fun h60_42 => ?_)
          · have hf := sm_t h60_42 hf
            exact jw_Model_fix_81 hC hr hlk hK M a0 a1 a2 a3 a4 a5 hG hl hf
          · have hf := sm_f h60_42 hf
            refine lv_iload hx hb d_Model_fix_63 (lv_at hl 6 rfl) ?_
            refine lv_sipush (v := -20000) hx hb d_Model_fix_65 (by decide) ?_
            refine lv_sipush (v := 20000) hx hb d_Model_fix_68 (by decide) ?_
            obtain ⟨r71_44, hc71_43, hf⟩ := sm_of_b1 hf
            refine ca_Model_82 hC hK hG (c_Model_within hc71_43) hl.1 ⟨Nat.le_of_ble_eq_true rfl, Nat.le_of_ble_eq_true rfl⟩ ⟨Nat.zero_le _, Nat.zero_le _⟩ (Nat.le_of_ble_eq_true rfl) d_Model_fix_71 ?_
            refine lv_if_eq hx hb d_Model_fix_74 rfl (fun h74_46 => ?_) (fun h74_46 => ?_)
            · have hf := sm_t h74_46 hf
              exact jw_Model_fix_81 hC hr hlk hK M a0 a1 a2 a3 a4 a5 hG hl hf
            · have hf := sm_f h74_46 hf
              refine lv_iconst (v := 1) hx hb d_Model_fix_77 (by decide) ?_
              refine lv_goto hx hb d_Model_fix_78 rfl ?_
              exact jw_Model_fix_82 hC hr hlk hK M a0 a1 a2 a3 a4 a5 (1 : Int32) hG hl hf
abbrev w_Model_clear : List Cond := Cond.code y_Model_clear b_Model_clear 2 (some .boolean) :: sm_AW
abbrev rm_Model_clear : Room := { frames := 1, cells := 0, slots := 0, locals := 22 }
def j_Model_clear_15 (M : sm_M) (y1 : Int32) (z0 : Int32) : Option (Int32 × sm_M) :=
sm_nm (sm_up M 68 0 z0) fun M15_5 =>
(if (M15_5 68 0) ≤ 0 then
sm_gd ((2 : Int32) * y1) 8 (
sm_nm (sm_up M15_5 70 (Int32.toNatClampNeg ((2 : Int32) * y1)) (0 : Int32)) fun M35_8 =>
sm_gd (((2 : Int32) * y1) + (1 : Int32)) 8 (
sm_nm (sm_up M35_8 70 (Int32.toNatClampNeg (((2 : Int32) * y1) + (1 : Int32))) (0 : Int32)) fun M46_10 =>
sm_gd y1 4 (
sm_nm (sm_up M46_10 71 (Int32.toNatClampNeg y1) (0 : Int32)) fun M53_12 =>
sm_gd y1 4 (
sm_nm (sm_up M53_12 76 (Int32.toNatClampNeg y1) (0 : Int32)) fun M60_14 =>
(some ((1 : Int32), M60_14))))))
else
(some ((0 : Int32), M15_5)))
def f_Model_clear (M : sm_M) (a0 : Int32) : Option (Int32 × sm_M) :=
sm_b1 (f_Model_within a0 (0 : Int32) (3 : Int32)) fun r4_2 =>
(if r4_2 = 0 then
j_Model_clear_15 M a0 (1 : Int32)
else
j_Model_clear_15 M a0 (0 : Int32))
set_option maxHeartbeats 4000000 in
set_option maxRecDepth 100000 in
theorem jw_Model_clear_15 {p : Program} {l : Launch} {e : Env} {s : State} {m : MethodId} {args : Array Value} {below : List Frame} {meth : Method} {c : Code} {v : sm_V} {o : sm_O} {r : Int32} {M' : sm_M} (hC : CallFix p m c b_Model_clear 2 s args w_Model_clear R_Model) (hr : meth.sig.returnType = some .boolean) (hlk : meth.locks = false) (hK : sm_K v s) (M : sm_M) (y1 : Int32) (z0 : Int32) {H : Heap} {locs : List Loc} {ls : Array Slot} (hG : sm_G v M o s H locs) (hl : lv_has ls 2 [(0, .ref (sm_a v 68)), (1, .int y1)]) (hf : j_Model_clear_15 M y1 z0 = some (r, M')) : W p l e rm_Model_clear s m args below meth c H locs 0 0 (MQ below (sm_Qi v M' o r) args s 0 0 (sm_A v)) (F0 m 15 ls [.int z0, .ref (sm_a v 68)]) := by
  have hx := hC.1
  have hb := hC.2.1
  unfold j_Model_clear_15 at hf
  refine pf_Model_74 hC hK hG d_Model_clear_15 (fun M15_5 H locs eM15_5 hG => ?_)
  have hf := sm_of eM15_5 hf
  refine lv_aload_n hx hb d_Model_clear_18 rfl (lv_at hl 0 rfl) ?_
  refine gf_Model_74 hC hK hG d_Model_clear_19 ?_
  refine lv_if_le hx hb d_Model_clear_22 rfl (fun h22_6 => ?_) (fun h22_6 => ?_)
  · have hf := sm_t h22_6 hf
    refine lv_aload_n hx hb d_Model_clear_27 rfl (lv_at hl 0 rfl) ?_
    refine gf_Model_13 hC hK hG d_Model_clear_28 ?_
    refine lv_iconst (v := 2) hx hb d_Model_clear_31 (by decide) ?_
    refine lv_iload_n hx hb d_Model_clear_32 rfl (lv_at hl 1 rfl) ?_
    refine lv_imul hx hb d_Model_clear_33 ?_
    refine lv_iconst (v := 0) hx hb d_Model_clear_34 (by decide) ?_
    obtain ⟨h35_7, hf⟩ := sm_of_gd hf
    refine sm_iast hC hK hG (by decide) rfl h35_7 d_Model_clear_35 (fun M35_8 H locs eM35_8 hG => ?_)
    have hf := sm_of eM35_8 hf
    refine lv_aload_n hx hb d_Model_clear_36 rfl (lv_at hl 0 rfl) ?_
    refine gf_Model_13 hC hK hG d_Model_clear_37 ?_
    refine lv_iconst (v := 2) hx hb d_Model_clear_40 (by decide) ?_
    refine lv_iload_n hx hb d_Model_clear_41 rfl (lv_at hl 1 rfl) ?_
    refine lv_imul hx hb d_Model_clear_42 ?_
    refine lv_iconst (v := 1) hx hb d_Model_clear_43 (by decide) ?_
    refine lv_iadd hx hb d_Model_clear_44 ?_
    refine lv_iconst (v := 0) hx hb d_Model_clear_45 (by decide) ?_
    obtain ⟨h46_9, hf⟩ := sm_of_gd hf
    refine sm_iast hC hK hG (by decide) rfl h46_9 d_Model_clear_46 (fun M46_10 H locs eM46_10 hG => ?_)
    have hf := sm_of eM46_10 hf
    refine lv_aload_n hx hb d_Model_clear_47 rfl (lv_at hl 0 rfl) ?_
    refine gf_Model_16 hC hK hG d_Model_clear_48 ?_
    refine lv_iload_n hx hb d_Model_clear_51 rfl (lv_at hl 1 rfl) ?_
    refine lv_iconst (v := 0) hx hb d_Model_clear_52 (by decide) ?_
    obtain ⟨h53_11, hf⟩ := sm_of_gd hf
    refine sm_iast hC hK hG (by decide) rfl h53_11 d_Model_clear_53 (fun M53_12 H locs eM53_12 hG => ?_)
    have hf := sm_of eM53_12 hf
    refine lv_aload_n hx hb d_Model_clear_54 rfl (lv_at hl 0 rfl) ?_
    refine gf_Model_32 hC hK hG d_Model_clear_55 ?_
    refine lv_iload_n hx hb d_Model_clear_58 rfl (lv_at hl 1 rfl) ?_
    refine lv_iconst (v := 0) hx hb d_Model_clear_59 (by decide) ?_
    obtain ⟨h60_13, hf⟩ := sm_of_gd hf
    refine sm_iast hC hK hG (by decide) rfl h60_13 d_Model_clear_60 (fun M60_14 H locs eM60_14 hG => ?_)
    have hf := sm_of eM60_14 hf
    refine lv_iconst (v := 1) hx hb d_Model_clear_61 (by decide) ?_
    obtain ⟨rfl, rfl⟩ := Prod.mk.inj (Option.some.inj hf)
    exact sm_zret hC hr rfl hlk hG d_Model_clear_62
  · have hf := sm_f h22_6 hf
    refine lv_iconst (v := 0) hx hb d_Model_clear_25 (by decide) ?_
    obtain ⟨rfl, rfl⟩ := Prod.mk.inj (Option.some.inj hf)
    exact sm_zret hC hr rfl hlk hG d_Model_clear_26
set_option maxHeartbeats 4000000 in
set_option maxRecDepth 100000 in
theorem c_Model_clear {l : Launch} {v : sm_V} {o : sm_O} {M : sm_M} {a0 : Int32} {r : Int32} {M' : sm_M} (hf : f_Model_clear M a0 = some (r, M')) : sm_Ci l y_Model_clear w_Model_clear rm_Model_clear v [.ref (sm_a v 68), .int a0] M o r M' := by
  refine sm_met (cc := b_Model_clear) (nL := 2) (ret := some .boolean) (plainFor_of_name (by decide)) rfl (Nat.le_of_ble_eq_true rfl) (fun p e s m args below meth c hC hr hlk hK hG ls hl => ?_)
  have hx := hC.1
  have hb := hC.2.1
  have hl : lv_has ls 2 [(0, .ref (sm_a v 68)), (1, .int a0)] := hl
  unfold f_Model_clear at hf
  refine lv_aload_n hx hb d_Model_clear_0 rfl (lv_at hl 0 rfl) ?_
  refine lv_iload_n hx hb d_Model_clear_1 rfl (lv_at hl 1 rfl) ?_
  refine lv_iconst (v := 0) hx hb d_Model_clear_2 (by decide) ?_
  refine lv_iconst (v := 3) hx hb d_Model_clear_3 (by decide) ?_
  obtain ⟨r4_2, hc4_1, hf⟩ := sm_of_b1 hf
  refine ca_Model_82 hC hK hG (c_Model_within hc4_1) hl.1 ⟨Nat.le_of_ble_eq_true rfl, Nat.le_of_ble_eq_true rfl⟩ ⟨Nat.zero_le _, Nat.zero_le _⟩ (Nat.le_of_ble_eq_true rfl) d_Model_clear_4 ?_
  refine lv_if_eq hx hb d_Model_clear_7 rfl (fun h7_4 => ?_) (fun h7_4 => ?_)
  · have hf := sm_t h7_4 hf
    refine lv_iconst (v := 1) hx hb d_Model_clear_14 (by decide) ?_
    exact jw_Model_clear_15 hC hr hlk hK M a0 (1 : Int32) hG hl hf
  · have hf := sm_f h7_4 hf
    refine lv_iconst (v := 0) hx hb d_Model_clear_10 (by decide) ?_
    refine lv_goto hx hb d_Model_clear_11 rfl ?_
    exact jw_Model_clear_15 hC hr hlk hK M a0 (0 : Int32) hG hl hf
abbrev w_Model_definition : List Cond := Cond.code y_Model_definition b_Model_definition 6 (some .int) :: sm_AW
abbrev rm_Model_definition : Room := { frames := 0, cells := 0, slots := 0, locals := 0 }
def g_Model_definition_13 (M : sm_M) (w1 : Int32) (w2 : Int32) (w3 : Int32) (rec13 : Int32 → Int32 → Option (Int32)) (w5 : Int32) (w4 : Int32) : Option (Int32) :=
(if w5 < 0 then
(some w4)
else
sm_gd (((8 : Int32) * w1) + w5) 32 (
(if (M 72 (Int32.toNatClampNeg (((8 : Int32) * w1) + w5))) = w2 then
(if w3 = 0 then
sm_gd (((8 : Int32) * w1) + w5) 32 (
(if (M 75 (Int32.toNatClampNeg (((8 : Int32) * w1) + w5))) = 0 then
rec13 (w5 + (-1 : Int32)) w4
else
sm_nm (((8 : Int32) * w1) + w5) fun x65_10 =>
rec13 (w5 + (-1 : Int32)) x65_10))
else
sm_nm (((8 : Int32) * w1) + w5) fun x65_7 =>
rec13 (w5 + (-1 : Int32)) x65_7)
else
rec13 (w5 + (-1 : Int32)) w4)))
def f_Model_definition (M : sm_M) (a0 : Int32) (a1 : Int32) (a2 : Int32) : Option (Int32) :=
sm_gd a0 4 (
sm_nm ((M 71 (Int32.toNatClampNeg a0)) - (1 : Int32)) fun x11_2 =>
sm_lp2 (g_Model_definition_13 M a0 a1 a2) 1100 x11_2 (-1 : Int32))
set_option maxHeartbeats 4000000 in
set_option maxRecDepth 100000 in
theorem lw_Model_definition_13 {p : Program} {l : Launch} {e : Env} {s : State} {m : MethodId} {args : Array Value} {below : List Frame} {meth : Method} {c : Code} {v : sm_V} {o : sm_O} {r : Int32} (hC : CallFix p m c b_Model_definition 6 s args w_Model_definition R_Model) (hr : meth.sig.returnType = some .int) (hlk : meth.locks = false) (hK : sm_K v s) (M : sm_M) (w1 : Int32) (w2 : Int32) (w3 : Int32) (hG : sm_G v M o s s.heap []) :
    ∀ (n : Nat) (w5 : Int32) (w4 : Int32) (ls : Array Slot), lv_has ls 6 [(5, .int w5), (4, .int w4), (0, .ref (sm_a v 68)), (1, .int w1), (2, .int w2), (3, .int w3)] → sm_lp2 (g_Model_definition_13 M w1 w2 w3) n w5 w4 = some r → W p l e rm_Model_definition s m args below meth c s.heap [] 0 0 (MQ below (sm_Qi0 r) args s 0 0 (fun _ => False)) (F0 m 13 ls []) := by
  have hx := hC.1
  have hb := hC.2.1
  intro n
  induction n with
  | zero =>
    intro w5 w4 ls hl hf
    cases hf
  | succ n ih =>
    intro w5 w4 ls hl hf
    have hf : g_Model_definition_13 M w1 w2 w3 (sm_lp2 (g_Model_definition_13 M w1 w2 w3) n) w5 w4 = some r := hf
    unfold g_Model_definition_13 at hf
    refine lv_iload hx hb d_Model_definition_13 (lv_at hl 0 rfl) ?_
    refine lv_if_lt hx hb d_Model_definition_15 rfl (fun h15_3 => ?_) (fun h15_3 => ?_)
    · have hf := sm_t h15_3 hf
      refine lv_iload hx hb d_Model_definition_73 (lv_at hl 1 rfl) ?_
      obtain rfl := Option.some.inj hf
      exact sm_iret0 hC hr hlk d_Model_definition_75
    · have hf := sm_f h15_3 hf
      refine lv_aload_n hx hb d_Model_definition_18 rfl (lv_at hl 2 rfl) ?_
      refine gf_Model_19 hC hK hG d_Model_definition_19 ?_
      refine lv_bipush (v := 8) hx hb d_Model_definition_22 (by decide) ?_
      refine lv_iload_n hx hb d_Model_definition_24 rfl (lv_at hl 3 rfl) ?_
      refine lv_imul hx hb d_Model_definition_25 ?_
      refine lv_iload hx hb d_Model_definition_26 (lv_at hl 0 rfl) ?_
      refine lv_iadd hx hb d_Model_definition_28 ?_
      obtain ⟨h29_4, hf⟩ := sm_of_gd hf
      refine sm_iald hC hK hG (by decide) rfl h29_4 d_Model_definition_29 ?_
      refine lv_iload_n hx hb d_Model_definition_30 rfl (lv_at hl 4 rfl) ?_
      refine lv_icmp_ne hx hb d_Model_definition_31 rfl (fun h31_5 => ?_) (fun h31_5 => ?_)
      · have hf := sm_f h31_5 hf
        refine lv_iload hx hb d_Model_definition_63 (lv_at hl 1 rfl) ?_
        refine lv_istore hx hb d_Model_definition_65 hl (Nat.le_of_ble_eq_true rfl) rfl (fun ls hl => ?_)
        have hl : lv_has ls 6 [(4, .int w4), (5, .int w5), (0, .ref (sm_a v 68)), (1, .int w1), (2, .int w2), (3, .int w3)] := hl
        refine lv_iinc (v := w5 + (-1 : Int32)) (k := 1) hx hb d_Model_definition_67 hl rfl rfl (Nat.le_of_ble_eq_true rfl) rfl (fun ls hl => ?_)
        have hl : lv_has ls 6 [(5, .int (w5 + (-1 : Int32))), (4, .int w4), (0, .ref (sm_a v 68)), (1, .int w1), (2, .int w2), (3, .int w3)] := hl
        refine lv_goto hx hb d_Model_definition_70 rfl ?_
        exact ih _ _ ls hl hf
      · have hf := sm_t h31_5 hf
        refine lv_iload_n hx hb d_Model_definition_34 rfl (lv_at hl 5 rfl) ?_
        refine lv_if_ne hx hb d_Model_definition_35 rfl (fun h35_6 => ?_) (fun h35_6 => ?_)
        · have hf := sm_f h35_6 hf
          refine lv_bipush (v := 8) hx hb d_Model_definition_53 (by decide) ?_
          refine lv_iload_n hx hb d_Model_definition_55 rfl (lv_at hl 3 rfl) ?_
          refine lv_imul hx hb d_Model_definition_56 ?_
          refine lv_iload hx hb d_Model_definition_57 (lv_at hl 0 rfl) ?_
          refine lv_iadd hx hb d_Model_definition_59 ?_
          refine lv_goto hx hb d_Model_definition_60 rfl ?_
          refine lv_topi (fun x65_7 ex65_7 => ?_)
          have hf := sm_of ex65_7 hf
          refine lv_istore hx hb d_Model_definition_65 hl (Nat.le_of_ble_eq_true rfl) rfl (fun ls hl => ?_)
          have hl : lv_has ls 6 [(4, .int x65_7), (5, .int w5), (0, .ref (sm_a v 68)), (1, .int w1), (2, .int w2), (3, .int w3)] := hl
          refine lv_iinc (v := w5 + (-1 : Int32)) (k := 1) hx hb d_Model_definition_67 hl rfl rfl (Nat.le_of_ble_eq_true rfl) rfl (fun ls hl => ?_)
          have hl : lv_has ls 6 [(5, .int (w5 + (-1 : Int32))), (4, .int x65_7), (0, .ref (sm_a v 68)), (1, .int w1), (2, .int w2), (3, .int w3)] := hl
          refine lv_goto hx hb d_Model_definition_70 rfl ?_
          exact ih _ _ ls hl hf
        · have hf := sm_t h35_6 hf
          refine lv_aload_n hx hb d_Model_definition_38 rfl (lv_at hl 2 rfl) ?_
          refine gf_Model_28 hC hK hG d_Model_definition_39 ?_
          refine lv_bipush (v := 8) hx hb d_Model_definition_42 (by decide) ?_
          refine lv_iload_n hx hb d_Model_definition_44 rfl (lv_at hl 3 rfl) ?_
          refine lv_imul hx hb d_Model_definition_45 ?_
          refine lv_iload hx hb d_Model_definition_46 (lv_at hl 0 rfl) ?_
          refine lv_iadd hx hb d_Model_definition_48 ?_
          obtain ⟨h49_8, hf⟩ := sm_of_gd hf
          refine sm_zald hC hK hG (by decide) rfl h49_8 d_Model_definition_49 ?_
          refine lv_if_eq hx hb d_Model_definition_50 rfl (fun h50_9 => ?_) (fun h50_9 => ?_)
          · have hf := sm_t h50_9 hf
            refine lv_iload hx hb d_Model_definition_63 (lv_at hl 1 rfl) ?_
            refine lv_istore hx hb d_Model_definition_65 hl (Nat.le_of_ble_eq_true rfl) rfl (fun ls hl => ?_)
            have hl : lv_has ls 6 [(4, .int w4), (5, .int w5), (0, .ref (sm_a v 68)), (1, .int w1), (2, .int w2), (3, .int w3)] := hl
            refine lv_iinc (v := w5 + (-1 : Int32)) (k := 1) hx hb d_Model_definition_67 hl rfl rfl (Nat.le_of_ble_eq_true rfl) rfl (fun ls hl => ?_)
            have hl : lv_has ls 6 [(5, .int (w5 + (-1 : Int32))), (4, .int w4), (0, .ref (sm_a v 68)), (1, .int w1), (2, .int w2), (3, .int w3)] := hl
            refine lv_goto hx hb d_Model_definition_70 rfl ?_
            exact ih _ _ ls hl hf
          · have hf := sm_f h50_9 hf
            refine lv_bipush (v := 8) hx hb d_Model_definition_53 (by decide) ?_
            refine lv_iload_n hx hb d_Model_definition_55 rfl (lv_at hl 3 rfl) ?_
            refine lv_imul hx hb d_Model_definition_56 ?_
            refine lv_iload hx hb d_Model_definition_57 (lv_at hl 0 rfl) ?_
            refine lv_iadd hx hb d_Model_definition_59 ?_
            refine lv_goto hx hb d_Model_definition_60 rfl ?_
            refine lv_topi (fun x65_10 ex65_10 => ?_)
            have hf := sm_of ex65_10 hf
            refine lv_istore hx hb d_Model_definition_65 hl (Nat.le_of_ble_eq_true rfl) rfl (fun ls hl => ?_)
            have hl : lv_has ls 6 [(4, .int x65_10), (5, .int w5), (0, .ref (sm_a v 68)), (1, .int w1), (2, .int w2), (3, .int w3)] := hl
            refine lv_iinc (v := w5 + (-1 : Int32)) (k := 1) hx hb d_Model_definition_67 hl rfl rfl (Nat.le_of_ble_eq_true rfl) rfl (fun ls hl => ?_)
            have hl : lv_has ls 6 [(5, .int (w5 + (-1 : Int32))), (4, .int x65_10), (0, .ref (sm_a v 68)), (1, .int w1), (2, .int w2), (3, .int w3)] := hl
            refine lv_goto hx hb d_Model_definition_70 rfl ?_
            exact ih _ _ ls hl hf
set_option maxHeartbeats 4000000 in
set_option maxRecDepth 100000 in
theorem c_Model_definition {l : Launch} {v : sm_V} {o : sm_O} {M : sm_M} {a0 : Int32} {a1 : Int32} {a2 : Int32} {r : Int32} (hf : f_Model_definition M a0 a1 a2 = some r) : sm_Ri l y_Model_definition w_Model_definition rm_Model_definition v [.ref (sm_a v 68), .int a0, .int a1, .int a2] M o r  := by
  refine sm_met (cc := b_Model_definition) (nL := 6) (ret := some .int) (plainFor_of_name (by decide)) rfl (Nat.le_of_ble_eq_true rfl) (fun p e s m args below meth c hC hr hlk hK hG ls hl => ?_)
  have hx := hC.1
  have hb := hC.2.1
  have hl : lv_has ls 6 [(0, .ref (sm_a v 68)), (1, .int a0), (2, .int a1), (3, .int a2)] := hl
  unfold f_Model_definition at hf
  refine lv_iconst (v := -1) hx hb d_Model_definition_0 (by decide) ?_
  refine lv_istore hx hb d_Model_definition_1 hl (Nat.le_of_ble_eq_true rfl) rfl (fun ls hl => ?_)
  have hl : lv_has ls 6 [(4, .int (-1 : Int32)), (0, .ref (sm_a v 68)), (1, .int a0), (2, .int a1), (3, .int a2)] := hl
  refine lv_aload_n hx hb d_Model_definition_3 rfl (lv_at hl 1 rfl) ?_
  refine gf_Model_16 hC hK hG d_Model_definition_4 ?_
  refine lv_iload_n hx hb d_Model_definition_7 rfl (lv_at hl 2 rfl) ?_
  obtain ⟨h8_1, hf⟩ := sm_of_gd hf
  refine sm_iald hC hK hG (by decide) rfl h8_1 d_Model_definition_8 ?_
  refine lv_iconst (v := 1) hx hb d_Model_definition_9 (by decide) ?_
  refine lv_isub hx hb d_Model_definition_10 ?_
  refine lv_topi (fun x11_2 ex11_2 => ?_)
  have hf := sm_of ex11_2 hf
  refine lv_istore hx hb d_Model_definition_11 hl (Nat.le_of_ble_eq_true rfl) rfl (fun ls hl => ?_)
  have hl : lv_has ls 6 [(5, .int x11_2), (4, .int (-1 : Int32)), (0, .ref (sm_a v 68)), (1, .int a0), (2, .int a1), (3, .int a2)] := hl
  exact lw_Model_definition_13 hC hr hlk hK M a0 a1 a2 hG 1100 _ _ ls hl hf
theorem ca_Model_97 {p : Program} {l : Launch} {e : Env} {R : Room} {s : State} {m : MethodId} {args : Array Value} {below : List Frame} {meth : Method} {c : Code} {H : Heap} {locs : List Loc} {cells slots : Nat} {Q : State → Prop} {cc : ByteArray} {nL pc : Nat} {ls : Array Slot} {rest : List Value} {w0 : Cond} {v : sm_V} {M : sm_M} {o : sm_O} {x0 : Int32} {x1 : Int32} {x2 : Int32} {r : Int32} (hC : CallFix p m c cc nL s args (w0 :: sm_AW) R_Model) (hK : sm_K v s) (hG : sm_G v M o s H locs) (hM : sm_Ri l y_Model_definition w_Model_definition rm_Model_definition v [.ref (sm_a v 68), .int x0, .int x1, .int x2] M o r) (hsz : ls.size = nL) (hR : rm_Model_definition.frames + 1 ≤ R.frames ∧ 8 + (6 + 11) + rm_Model_definition.locals ≤ R.locals) (hcs : cells + 0 ≤ R.cells ∧ slots + 0 ≤ R.slots) (hW : (rest.map fun v => v.category).sum ≤ 8) (hdg : decode cc pc = .ok (.invokevirtual 97, 3))
    (kk : W p l e R s m args below meth c H locs cells slots Q (F0 m (pc + 3) ls (.int r :: rest))) : W p l e R s m args below meth c H locs cells slots Q (F0 m pc ls (.int x2 :: .int x1 :: .int x0 :: .ref (sm_a v 68) :: rest)) :=
  sm_calli0 (va_runV (C := R_Model) (As := [.int x0, .int x1, .int x2]) (rest := rest) hC hM (cwV 3 hC.2.2.2.2 (sm_good (sm_inV aw_841 aw_843 as_32 aw_7 aw_844)) rfl rfl rfl (by decide +kernel) hR) (sm_preV hK hG (by decide) rfl rfl) rfl rfl hsz rfl (lv_room hW) hdg hcs) kk
abbrev w_Model_globalOne : List Cond := Cond.code y_Model_globalOne b_Model_globalOne 5 (some .int) :: sm_AW
abbrev rm_Model_globalOne : Room := { frames := 1, cells := 0, slots := 0, locals := 25 }
def g_Model_globalOne_4 (M : sm_M) (w1 : Int32) (rec4 : Int32 → Int32 → Option (Int32)) (w3 : Int32) (w2 : Int32) : Option (Int32) :=
(if w3 < 0 then
(some w2)
else
sm_b1 (f_Model_definition M w3 w1 (0 : Int32)) fun r12_3 =>
(if r12_3 = (-1 : Int32) then
rec4 (w3 + (-1 : Int32)) w2
else
rec4 (w3 + (-1 : Int32)) r12_3))
def f_Model_globalOne (M : sm_M) (a0 : Int32) : Option (Int32) :=
sm_lp2 (g_Model_globalOne_4 M a0) 1100 (3 : Int32) (-1 : Int32)
set_option maxHeartbeats 4000000 in
set_option maxRecDepth 100000 in
theorem lw_Model_globalOne_4 {p : Program} {l : Launch} {e : Env} {s : State} {m : MethodId} {args : Array Value} {below : List Frame} {meth : Method} {c : Code} {v : sm_V} {o : sm_O} {r : Int32} (hC : CallFix p m c b_Model_globalOne 5 s args w_Model_globalOne R_Model) (hr : meth.sig.returnType = some .int) (hlk : meth.locks = false) (hK : sm_K v s) (M : sm_M) (w1 : Int32) (hG : sm_G v M o s s.heap []) :
    ∀ (n : Nat) (w3 : Int32) (w2 : Int32) (ls : Array Slot), lv_has ls 5 [(3, .int w3), (2, .int w2), (0, .ref (sm_a v 68)), (1, .int w1)] → sm_lp2 (g_Model_globalOne_4 M w1) n w3 w2 = some r → W p l e rm_Model_globalOne s m args below meth c s.heap [] 0 0 (MQ below (sm_Qi0 r) args s 0 0 (fun _ => False)) (F0 m 4 ls []) := by
  have hx := hC.1
  have hb := hC.2.1
  intro n
  induction n with
  | zero =>
    intro w3 w2 ls hl hf
    cases hf
  | succ n ih =>
    intro w3 w2 ls hl hf
    have hf : g_Model_globalOne_4 M w1 (sm_lp2 (g_Model_globalOne_4 M w1) n) w3 w2 = some r := hf
    unfold g_Model_globalOne_4 at hf
    refine lv_iload_n hx hb d_Model_globalOne_4 rfl (lv_at hl 0 rfl) ?_
    refine lv_if_lt hx hb d_Model_globalOne_5 rfl (fun h5_1 => ?_) (fun h5_1 => ?_)
    · have hf := sm_t h5_1 hf
      refine lv_iload_n hx hb d_Model_globalOne_36 rfl (lv_at hl 1 rfl) ?_
      obtain rfl := Option.some.inj hf
      exact sm_iret0 hC hr hlk d_Model_globalOne_37
    · have hf := sm_f h5_1 hf
      refine lv_aload_n hx hb d_Model_globalOne_8 rfl (lv_at hl 2 rfl) ?_
      refine lv_iload_n hx hb d_Model_globalOne_9 rfl (lv_at hl 0 rfl) ?_
      refine lv_iload_n hx hb d_Model_globalOne_10 rfl (lv_at hl 3 rfl) ?_
      refine lv_iconst (v := 0) hx hb d_Model_globalOne_11 (by decide) ?_
      obtain ⟨r12_3, hc12_2, hf⟩ := sm_of_b1 hf
      refine ca_Model_97 hC hK hG (c_Model_definition hc12_2) hl.1 ⟨Nat.le_of_ble_eq_true rfl, Nat.le_of_ble_eq_true rfl⟩ ⟨Nat.zero_le _, Nat.zero_le _⟩ (Nat.le_of_ble_eq_true rfl) d_Model_globalOne_12 ?_
      refine lv_istore hx hb d_Model_globalOne_15 hl (Nat.le_of_ble_eq_true rfl) rfl (fun ls hl => ?_)
      have hl : lv_has ls 5 [(4, .int r12_3), (3, .int w3), (2, .int w2), (0, .ref (sm_a v 68)), (1, .int w1)] := hl
      refine lv_iload hx hb d_Model_globalOne_17 (lv_at hl 0 rfl) ?_
      refine lv_iconst (v := -1) hx hb d_Model_globalOne_19 (by decide) ?_
      refine lv_icmp_ne hx hb d_Model_globalOne_20 rfl (fun h20_5 => ?_) (fun h20_5 => ?_)
      · have hf := sm_f h20_5 hf
        refine lv_iload hx hb d_Model_globalOne_27 (lv_at hl 0 rfl) ?_
        refine lv_istore_n hx hb d_Model_globalOne_29 rfl hl (Nat.le_of_ble_eq_true rfl) rfl (fun ls hl => ?_)
        have hl : lv_has ls 5 [(2, .int r12_3), (4, .int r12_3), (3, .int w3), (0, .ref (sm_a v 68)), (1, .int w1)] := hl
        have hl : lv_has ls 5 [(2, .int r12_3), (3, .int w3), (0, .ref (sm_a v 68)), (1, .int w1)] := lv_sub hl [0, 2, 3, 4] rfl
        refine lv_iinc (v := w3 + (-1 : Int32)) (k := 1) hx hb d_Model_globalOne_30 hl rfl rfl (Nat.le_of_ble_eq_true rfl) rfl (fun ls hl => ?_)
        have hl : lv_has ls 5 [(3, .int (w3 + (-1 : Int32))), (2, .int r12_3), (0, .ref (sm_a v 68)), (1, .int w1)] := hl
        refine lv_goto hx hb d_Model_globalOne_33 rfl ?_
        exact ih _ _ ls hl hf
      · have hf := sm_t h20_5 hf
        refine lv_iload_n hx hb d_Model_globalOne_23 rfl (lv_at hl 2 rfl) ?_
        refine lv_goto hx hb d_Model_globalOne_24 rfl ?_
        refine lv_istore_n hx hb d_Model_globalOne_29 rfl hl (Nat.le_of_ble_eq_true rfl) rfl (fun ls hl => ?_)
        have hl : lv_has ls 5 [(2, .int w2), (4, .int r12_3), (3, .int w3), (0, .ref (sm_a v 68)), (1, .int w1)] := hl
        have hl : lv_has ls 5 [(2, .int w2), (3, .int w3), (0, .ref (sm_a v 68)), (1, .int w1)] := lv_sub hl [0, 2, 3, 4] rfl
        refine lv_iinc (v := w3 + (-1 : Int32)) (k := 1) hx hb d_Model_globalOne_30 hl rfl rfl (Nat.le_of_ble_eq_true rfl) rfl (fun ls hl => ?_)
        have hl : lv_has ls 5 [(3, .int (w3 + (-1 : Int32))), (2, .int w2), (0, .ref (sm_a v 68)), (1, .int w1)] := hl
        refine lv_goto hx hb d_Model_globalOne_33 rfl ?_
        exact ih _ _ ls hl hf
set_option maxHeartbeats 4000000 in
set_option maxRecDepth 100000 in
theorem c_Model_globalOne {l : Launch} {v : sm_V} {o : sm_O} {M : sm_M} {a0 : Int32} {r : Int32} (hf : f_Model_globalOne M a0 = some r) : sm_Ri l y_Model_globalOne w_Model_globalOne rm_Model_globalOne v [.ref (sm_a v 68), .int a0] M o r  := by
  refine sm_met (cc := b_Model_globalOne) (nL := 5) (ret := some .int) (plainFor_of_name (by decide)) rfl (Nat.le_of_ble_eq_true rfl) (fun p e s m args below meth c hC hr hlk hK hG ls hl => ?_)
  have hx := hC.1
  have hb := hC.2.1
  have hl : lv_has ls 5 [(0, .ref (sm_a v 68)), (1, .int a0)] := hl
  unfold f_Model_globalOne at hf
  refine lv_iconst (v := -1) hx hb d_Model_globalOne_0 (by decide) ?_
  refine lv_istore_n hx hb d_Model_globalOne_1 rfl hl (Nat.le_of_ble_eq_true rfl) rfl (fun ls hl => ?_)
  have hl : lv_has ls 5 [(2, .int (-1 : Int32)), (0, .ref (sm_a v 68)), (1, .int a0)] := hl
  refine lv_iconst (v := 3) hx hb d_Model_globalOne_2 (by decide) ?_
  refine lv_istore_n hx hb d_Model_globalOne_3 rfl hl (Nat.le_of_ble_eq_true rfl) rfl (fun ls hl => ?_)
  have hl : lv_has ls 5 [(3, .int (3 : Int32)), (2, .int (-1 : Int32)), (0, .ref (sm_a v 68)), (1, .int a0)] := hl
  exact lw_Model_globalOne_4 hC hr hlk hK M a0 hG 1100 _ _ ls hl hf
abbrev w_Model_twice : List Cond := Cond.code y_Model_twice b_Model_twice 8 (some .boolean) :: sm_AW
abbrev rm_Model_twice : Room := { frames := 0, cells := 0, slots := 0, locals := 0 }
def j_Model_twice_67 (M : sm_M) (y7 : Int32) (w6 : Int32) (w4 : Int32) (w3 : Int32) (w2 : Int32) (w1 : Int32) (z0 : Int32) (z1 : Int32) (rec19 : Int32 → Int32 → Int32 → Option (Int32)) : Option (Int32) :=
sm_nm (z1 + z0) fun x68_11 =>
(if y7 = 0 then
sm_nm (w2 + (0 : Int32)) fun x98_13 =>
rec19 (w6 + (1 : Int32)) x68_11 x98_13
else
sm_gd (((8 : Int32) * w4) + w6) 32 (
(if (M 75 (Int32.toNatClampNeg (((8 : Int32) * w4) + w6))) = 0 then
sm_nm (w2 + (0 : Int32)) fun x98_16 =>
rec19 (w6 + (1 : Int32)) x68_11 x98_16
else
sm_nm (w2 + (1 : Int32)) fun x98_17 =>
rec19 (w6 + (1 : Int32)) x68_11 x98_17)))
def j_Model_twice_53 (M : sm_M) (w6 : Int32) (w5 : Int32) (w4 : Int32) (w3 : Int32) (w2 : Int32) (w1 : Int32) (z0 : Int32) (rec19 : Int32 → Int32 → Int32 → Option (Int32)) : Option (Int32) :=
(if z0 = 0 then
j_Model_twice_67 M z0 w6 w4 w3 w2 w1 (0 : Int32) w5 rec19
else
j_Model_twice_67 M z0 w6 w4 w3 w2 w1 (1 : Int32) w5 rec19)
def g_Model_twice_19 (M : sm_M) (w4 : Int32) (w3 : Int32) (w1 : Int32) (rec7 : Int32 → Int32 → Int32 → Option (Int32)) (rec19 : Int32 → Int32 → Int32 → Option (Int32)) (w6 : Int32) (w5 : Int32) (w2 : Int32) : Option (Int32) :=
sm_gd w4 4 (
(if (M 71 (Int32.toNatClampNeg w4)) ≤ w6 then
(if w3 = 0 then
(if w5 ≤ (1 : Int32) then
rec7 (w4 + (1 : Int32)) (0 : Int32) w2
else
rec7 (w4 + (1 : Int32)) (1 : Int32) w2)
else
rec7 (w4 + (1 : Int32)) (1 : Int32) w2)
else
sm_gd (((8 : Int32) * w4) + w6) 32 (
(if (M 72 (Int32.toNatClampNeg (((8 : Int32) * w4) + w6))) = w1 then
j_Model_twice_53 M w6 w5 w4 w3 w2 w1 (1 : Int32) rec19
else
j_Model_twice_53 M w6 w5 w4 w3 w2 w1 (0 : Int32) rec19))))
def g_Model_twice_7 (M : sm_M) (w1 : Int32) (rec7 : Int32 → Int32 → Int32 → Option (Int32)) (w4 : Int32) (w3 : Int32) (w2 : Int32) : Option (Int32) :=
(if (4 : Int32) ≤ w4 then
(if w3 = 0 then
(if w2 ≤ (1 : Int32) then
(some (0 : Int32))
else
(some (1 : Int32)))
else
(some (1 : Int32)))
else
sm_lp3 (g_Model_twice_19 M w4 w3 w1 rec7) 1100 (0 : Int32) (0 : Int32) w2)
def f_Model_twice (M : sm_M) (a0 : Int32) : Option (Int32) :=
sm_lp3 (g_Model_twice_7 M a0) 1100 (0 : Int32) (0 : Int32) (0 : Int32)
set_option maxHeartbeats 4000000 in
set_option maxRecDepth 100000 in
theorem jw_Model_twice_67 {p : Program} {l : Launch} {e : Env} {s : State} {m : MethodId} {args : Array Value} {below : List Frame} {meth : Method} {c : Code} {v : sm_V} {o : sm_O} {r : Int32} (hC : CallFix p m c b_Model_twice 8 s args w_Model_twice R_Model) (hr : meth.sig.returnType = some .boolean) (hlk : meth.locks = false) (hK : sm_K v s) (M : sm_M) (y7 : Int32) (w6 : Int32) (w4 : Int32) (w3 : Int32) (w2 : Int32) (w1 : Int32) (z0 : Int32) (z1 : Int32) (rec19 : Int32 → Int32 → Int32 → Option (Int32)) (hout19 : ∀ (w6 : Int32) (w5 : Int32) (w2 : Int32) (ls : Array Slot), lv_has ls 8 [(6, .int w6), (5, .int w5), (4, .int w4), (3, .int w3), (2, .int w2), (0, .ref (sm_a v 68)), (1, .int w1)] → rec19 w6 w5 w2 = some r → W p l e rm_Model_twice s m args below meth c s.heap [] 0 0 (MQ below (sm_Qi0 r) args s 0 0 (fun _ => False)) (F0 m 19 ls [])) {ls : Array Slot} (hG : sm_G v M o s s.heap []) (hl : lv_has ls 8 [(7, .int y7), (6, .int w6), (4, .int w4), (3, .int w3), (2, .int w2), (0, .ref (sm_a v 68)), (1, .int w1)]) (hf : j_Model_twice_67 M y7 w6 w4 w3 w2 w1 z0 z1 rec19 = some r) : W p l e rm_Model_twice s m args below meth c s.heap [] 0 0 (MQ below (sm_Qi0 r) args s 0 0 (fun _ => False)) (F0 m 67 ls [.int z0, .int z1]) := by
  have hx := hC.1
  have hb := hC.2.1
  unfold j_Model_twice_67 at hf
  refine lv_iadd hx hb d_Model_twice_67 ?_
  refine lv_topi (fun x68_11 ex68_11 => ?_)
  have hf := sm_of ex68_11 hf
  refine lv_istore hx hb d_Model_twice_68 hl (Nat.le_of_ble_eq_true rfl) rfl (fun ls hl => ?_)
  have hl : lv_has ls 8 [(5, .int x68_11), (7, .int y7), (6, .int w6), (4, .int w4), (3, .int w3), (2, .int w2), (0, .ref (sm_a v 68)), (1, .int w1)] := hl
  refine lv_iload_n hx hb d_Model_twice_70 rfl (lv_at hl 5 rfl) ?_
  refine lv_iload hx hb d_Model_twice_71 (lv_at hl 1 rfl) ?_
  refine lv_if_eq hx hb d_Model_twice_73 rfl (fun h73_12 => ?_) (fun h73_12 => ?_)
  · have hf := sm_t h73_12 hf
    refine lv_iconst (v := 0) hx hb d_Model_twice_96 (by decide) ?_
    refine lv_iadd hx hb d_Model_twice_97 ?_
    refine lv_topi (fun x98_13 ex98_13 => ?_)
    have hf := sm_of ex98_13 hf
    refine lv_istore_n hx hb d_Model_twice_98 rfl hl (Nat.le_of_ble_eq_true rfl) rfl (fun ls hl => ?_)
    have hl : lv_has ls 8 [(2, .int x98_13), (5, .int x68_11), (7, .int y7), (6, .int w6), (4, .int w4), (3, .int w3), (0, .ref (sm_a v 68)), (1, .int w1)] := hl
    have hl : lv_has ls 8 [(2, .int x98_13), (5, .int x68_11), (6, .int w6), (4, .int w4), (3, .int w3), (0, .ref (sm_a v 68)), (1, .int w1)] := lv_sub hl [0, 1, 3, 4, 5, 6, 7] rfl
    refine lv_iinc (v := w6 + (1 : Int32)) (k := 2) hx hb d_Model_twice_99 hl rfl rfl (Nat.le_of_ble_eq_true rfl) rfl (fun ls hl => ?_)
    have hl : lv_has ls 8 [(6, .int (w6 + (1 : Int32))), (2, .int x98_13), (5, .int x68_11), (4, .int w4), (3, .int w3), (0, .ref (sm_a v 68)), (1, .int w1)] := hl
    refine lv_goto hx hb d_Model_twice_102 rfl ?_
    exact hout19 _ _ _ ls (lv_sub hl [0, 2, 3, 4, 1, 5, 6] rfl) hf
  · have hf := sm_f h73_12 hf
    refine lv_aload_n hx hb d_Model_twice_76 rfl (lv_at hl 6 rfl) ?_
    refine gf_Model_28 hC hK hG d_Model_twice_77 ?_
    refine lv_bipush (v := 8) hx hb d_Model_twice_80 (by decide) ?_
    refine lv_iload hx hb d_Model_twice_82 (lv_at hl 3 rfl) ?_
    refine lv_imul hx hb d_Model_twice_84 ?_
    refine lv_iload hx hb d_Model_twice_85 (lv_at hl 2 rfl) ?_
    refine lv_iadd hx hb d_Model_twice_87 ?_
    obtain ⟨h88_14, hf⟩ := sm_of_gd hf
    refine sm_zald hC hK hG (by decide) rfl h88_14 d_Model_twice_88 ?_
    refine lv_if_eq hx hb d_Model_twice_89 rfl (fun h89_15 => ?_) (fun h89_15 => ?_)
    · have hf := sm_t h89_15 hf
      refine lv_iconst (v := 0) hx hb d_Model_twice_96 (by decide) ?_
      refine lv_iadd hx hb d_Model_twice_97 ?_
      refine lv_topi (fun x98_16 ex98_16 => ?_)
      have hf := sm_of ex98_16 hf
      refine lv_istore_n hx hb d_Model_twice_98 rfl hl (Nat.le_of_ble_eq_true rfl) rfl (fun ls hl => ?_)
      have hl : lv_has ls 8 [(2, .int x98_16), (5, .int x68_11), (7, .int y7), (6, .int w6), (4, .int w4), (3, .int w3), (0, .ref (sm_a v 68)), (1, .int w1)] := hl
      have hl : lv_has ls 8 [(2, .int x98_16), (5, .int x68_11), (6, .int w6), (4, .int w4), (3, .int w3), (0, .ref (sm_a v 68)), (1, .int w1)] := lv_sub hl [0, 1, 3, 4, 5, 6, 7] rfl
      refine lv_iinc (v := w6 + (1 : Int32)) (k := 2) hx hb d_Model_twice_99 hl rfl rfl (Nat.le_of_ble_eq_true rfl) rfl (fun ls hl => ?_)
      have hl : lv_has ls 8 [(6, .int (w6 + (1 : Int32))), (2, .int x98_16), (5, .int x68_11), (4, .int w4), (3, .int w3), (0, .ref (sm_a v 68)), (1, .int w1)] := hl
      refine lv_goto hx hb d_Model_twice_102 rfl ?_
      exact hout19 _ _ _ ls (lv_sub hl [0, 2, 3, 4, 1, 5, 6] rfl) hf
    · have hf := sm_f h89_15 hf
      refine lv_iconst (v := 1) hx hb d_Model_twice_92 (by decide) ?_
      refine lv_goto hx hb d_Model_twice_93 rfl ?_
      refine lv_iadd hx hb d_Model_twice_97 ?_
      refine lv_topi (fun x98_17 ex98_17 => ?_)
      have hf := sm_of ex98_17 hf
      refine lv_istore_n hx hb d_Model_twice_98 rfl hl (Nat.le_of_ble_eq_true rfl) rfl (fun ls hl => ?_)
      have hl : lv_has ls 8 [(2, .int x98_17), (5, .int x68_11), (7, .int y7), (6, .int w6), (4, .int w4), (3, .int w3), (0, .ref (sm_a v 68)), (1, .int w1)] := hl
      have hl : lv_has ls 8 [(2, .int x98_17), (5, .int x68_11), (6, .int w6), (4, .int w4), (3, .int w3), (0, .ref (sm_a v 68)), (1, .int w1)] := lv_sub hl [0, 1, 3, 4, 5, 6, 7] rfl
      refine lv_iinc (v := w6 + (1 : Int32)) (k := 2) hx hb d_Model_twice_99 hl rfl rfl (Nat.le_of_ble_eq_true rfl) rfl (fun ls hl => ?_)
      have hl : lv_has ls 8 [(6, .int (w6 + (1 : Int32))), (2, .int x98_17), (5, .int x68_11), (4, .int w4), (3, .int w3), (0, .ref (sm_a v 68)), (1, .int w1)] := hl
      refine lv_goto hx hb d_Model_twice_102 rfl ?_
      exact hout19 _ _ _ ls (lv_sub hl [0, 2, 3, 4, 1, 5, 6] rfl) hf
set_option maxHeartbeats 4000000 in
set_option maxRecDepth 100000 in
theorem jw_Model_twice_53 {p : Program} {l : Launch} {e : Env} {s : State} {m : MethodId} {args : Array Value} {below : List Frame} {meth : Method} {c : Code} {v : sm_V} {o : sm_O} {r : Int32} (hC : CallFix p m c b_Model_twice 8 s args w_Model_twice R_Model) (hr : meth.sig.returnType = some .boolean) (hlk : meth.locks = false) (hK : sm_K v s) (M : sm_M) (w6 : Int32) (w5 : Int32) (w4 : Int32) (w3 : Int32) (w2 : Int32) (w1 : Int32) (z0 : Int32) (rec19 : Int32 → Int32 → Int32 → Option (Int32)) (hout19 : ∀ (w6 : Int32) (w5 : Int32) (w2 : Int32) (ls : Array Slot), lv_has ls 8 [(6, .int w6), (5, .int w5), (4, .int w4), (3, .int w3), (2, .int w2), (0, .ref (sm_a v 68)), (1, .int w1)] → rec19 w6 w5 w2 = some r → W p l e rm_Model_twice s m args below meth c s.heap [] 0 0 (MQ below (sm_Qi0 r) args s 0 0 (fun _ => False)) (F0 m 19 ls [])) {ls : Array Slot} (hG : sm_G v M o s s.heap []) (hl : lv_has ls 8 [(6, .int w6), (5, .int w5), (4, .int w4), (3, .int w3), (2, .int w2), (0, .ref (sm_a v 68)), (1, .int w1)]) (hf : j_Model_twice_53 M w6 w5 w4 w3 w2 w1 z0 rec19 = some r) : W p l e rm_Model_twice s m args below meth c s.heap [] 0 0 (MQ below (sm_Qi0 r) args s 0 0 (fun _ => False)) (F0 m 53 ls [.int z0]) := by
  have hx := hC.1
  have hb := hC.2.1
  unfold j_Model_twice_53 at hf
  refine lv_istore hx hb d_Model_twice_53 hl (Nat.le_of_ble_eq_true rfl) rfl (fun ls hl => ?_)
  have hl : lv_has ls 8 [(7, .int z0), (6, .int w6), (5, .int w5), (4, .int w4), (3, .int w3), (2, .int w2), (0, .ref (sm_a v 68)), (1, .int w1)] := hl
  refine lv_iload hx hb d_Model_twice_55 (lv_at hl 2 rfl) ?_
  refine lv_iload hx hb d_Model_twice_57 (lv_at hl 0 rfl) ?_
  refine lv_if_eq hx hb d_Model_twice_59 rfl (fun h59_10 => ?_) (fun h59_10 => ?_)
  · have hf := sm_t h59_10 hf
    refine lv_iconst (v := 0) hx hb d_Model_twice_66 (by decide) ?_
    exact jw_Model_twice_67 hC hr hlk hK M z0 w6 w4 w3 w2 w1 (0 : Int32) w5 _ hout19 hG (lv_sub hl [0, 1, 3, 4, 5, 6, 7] rfl) hf
  · have hf := sm_f h59_10 hf
    refine lv_iconst (v := 1) hx hb d_Model_twice_62 (by decide) ?_
    refine lv_goto hx hb d_Model_twice_63 rfl ?_
    exact jw_Model_twice_67 hC hr hlk hK M z0 w6 w4 w3 w2 w1 (1 : Int32) w5 _ hout19 hG (lv_sub hl [0, 1, 3, 4, 5, 6, 7] rfl) hf
set_option maxHeartbeats 4000000 in
set_option maxRecDepth 100000 in
theorem lw_Model_twice_19 {p : Program} {l : Launch} {e : Env} {s : State} {m : MethodId} {args : Array Value} {below : List Frame} {meth : Method} {c : Code} {v : sm_V} {o : sm_O} {r : Int32} (hC : CallFix p m c b_Model_twice 8 s args w_Model_twice R_Model) (hr : meth.sig.returnType = some .boolean) (hlk : meth.locks = false) (hK : sm_K v s) (M : sm_M) (w4 : Int32) (w3 : Int32) (w1 : Int32) (hG : sm_G v M o s s.heap []) (rec7 : Int32 → Int32 → Int32 → Option (Int32)) (hout7 : ∀ (w4 : Int32) (w3 : Int32) (w2 : Int32) (ls : Array Slot), lv_has ls 8 [(4, .int w4), (3, .int w3), (2, .int w2), (0, .ref (sm_a v 68)), (1, .int w1)] → rec7 w4 w3 w2 = some r → W p l e rm_Model_twice s m args below meth c s.heap [] 0 0 (MQ below (sm_Qi0 r) args s 0 0 (fun _ => False)) (F0 m 7 ls [])) :
    ∀ (n : Nat) (w6 : Int32) (w5 : Int32) (w2 : Int32) (ls : Array Slot), lv_has ls 8 [(6, .int w6), (5, .int w5), (4, .int w4), (3, .int w3), (2, .int w2), (0, .ref (sm_a v 68)), (1, .int w1)] → sm_lp3 (g_Model_twice_19 M w4 w3 w1 rec7) n w6 w5 w2 = some r → W p l e rm_Model_twice s m args below meth c s.heap [] 0 0 (MQ below (sm_Qi0 r) args s 0 0 (fun _ => False)) (F0 m 19 ls []) := by
  have hx := hC.1
  have hb := hC.2.1
  intro n
  induction n with
  | zero =>
    intro w6 w5 w2 ls hl hf
    cases hf
  | succ n ih =>
    intro w6 w5 w2 ls hl hf
    have hf : g_Model_twice_19 M w4 w3 w1 rec7 (sm_lp3 (g_Model_twice_19 M w4 w3 w1 rec7) n) w6 w5 w2 = some r := hf
    unfold g_Model_twice_19 at hf
    refine lv_iload hx hb d_Model_twice_19 (lv_at hl 0 rfl) ?_
    refine lv_aload_n hx hb d_Model_twice_21 rfl (lv_at hl 5 rfl) ?_
    refine gf_Model_16 hC hK hG d_Model_twice_22 ?_
    refine lv_iload hx hb d_Model_twice_25 (lv_at hl 2 rfl) ?_
    obtain ⟨h27_4, hf⟩ := sm_of_gd hf
    refine sm_iald hC hK hG (by decide) rfl h27_4 d_Model_twice_27 ?_
    refine lv_icmp_ge hx hb d_Model_twice_28 rfl (fun h28_5 => ?_) (fun h28_5 => ?_)
    · have hf := sm_t h28_5 hf
      refine lv_iload_n hx hb d_Model_twice_105 rfl (lv_at hl 3 rfl) ?_
      refine lv_if_ne hx hb d_Model_twice_106 rfl (fun h106_6 => ?_) (fun h106_6 => ?_)
      · have hf := sm_f h106_6 hf
        refine lv_iconst (v := 1) hx hb d_Model_twice_115 (by decide) ?_
        refine lv_goto hx hb d_Model_twice_116 rfl ?_
        refine lv_istore_n hx hb d_Model_twice_120 rfl hl (Nat.le_of_ble_eq_true rfl) rfl (fun ls hl => ?_)
        have hl : lv_has ls 8 [(3, .int (1 : Int32)), (6, .int w6), (5, .int w5), (4, .int w4), (2, .int w2), (0, .ref (sm_a v 68)), (1, .int w1)] := hl
        have hl : lv_has ls 8 [(3, .int (1 : Int32)), (4, .int w4), (2, .int w2), (0, .ref (sm_a v 68)), (1, .int w1)] := lv_sub hl [0, 3, 4, 5, 6] rfl
        refine lv_iinc (v := w4 + (1 : Int32)) (k := 1) hx hb d_Model_twice_121 hl rfl rfl (Nat.le_of_ble_eq_true rfl) rfl (fun ls hl => ?_)
        have hl : lv_has ls 8 [(4, .int (w4 + (1 : Int32))), (3, .int (1 : Int32)), (2, .int w2), (0, .ref (sm_a v 68)), (1, .int w1)] := hl
        refine lv_goto hx hb d_Model_twice_124 rfl ?_
        exact hout7 _ _ _ ls hl hf
      · have hf := sm_t h106_6 hf
        refine lv_iload hx hb d_Model_twice_109 (lv_at hl 1 rfl) ?_
        refine lv_iconst (v := 1) hx hb d_Model_twice_111 (by decide) ?_
        refine lv_icmp_le hx hb d_Model_twice_112 rfl (fun h112_7 => ?_) (fun h112_7 => ?_)
        · have hf := sm_t h112_7 hf
          refine lv_iconst (v := 0) hx hb d_Model_twice_119 (by decide) ?_
          refine lv_istore_n hx hb d_Model_twice_120 rfl hl (Nat.le_of_ble_eq_true rfl) rfl (fun ls hl => ?_)
          have hl : lv_has ls 8 [(3, .int (0 : Int32)), (6, .int w6), (5, .int w5), (4, .int w4), (2, .int w2), (0, .ref (sm_a v 68)), (1, .int w1)] := hl
          have hl : lv_has ls 8 [(3, .int (0 : Int32)), (4, .int w4), (2, .int w2), (0, .ref (sm_a v 68)), (1, .int w1)] := lv_sub hl [0, 3, 4, 5, 6] rfl
          refine lv_iinc (v := w4 + (1 : Int32)) (k := 1) hx hb d_Model_twice_121 hl rfl rfl (Nat.le_of_ble_eq_true rfl) rfl (fun ls hl => ?_)
          have hl : lv_has ls 8 [(4, .int (w4 + (1 : Int32))), (3, .int (0 : Int32)), (2, .int w2), (0, .ref (sm_a v 68)), (1, .int w1)] := hl
          refine lv_goto hx hb d_Model_twice_124 rfl ?_
          exact hout7 _ _ _ ls hl hf
        · have hf := sm_f h112_7 hf
          refine lv_iconst (v := 1) hx hb d_Model_twice_115 (by decide) ?_
          refine lv_goto hx hb d_Model_twice_116 rfl ?_
          refine lv_istore_n hx hb d_Model_twice_120 rfl hl (Nat.le_of_ble_eq_true rfl) rfl (fun ls hl => ?_)
          have hl : lv_has ls 8 [(3, .int (1 : Int32)), (6, .int w6), (5, .int w5), (4, .int w4), (2, .int w2), (0, .ref (sm_a v 68)), (1, .int w1)] := hl
          have hl : lv_has ls 8 [(3, .int (1 : Int32)), (4, .int w4), (2, .int w2), (0, .ref (sm_a v 68)), (1, .int w1)] := lv_sub hl [0, 3, 4, 5, 6] rfl
          refine lv_iinc (v := w4 + (1 : Int32)) (k := 1) hx hb d_Model_twice_121 hl rfl rfl (Nat.le_of_ble_eq_true rfl) rfl (fun ls hl => ?_)
          have hl : lv_has ls 8 [(4, .int (w4 + (1 : Int32))), (3, .int (1 : Int32)), (2, .int w2), (0, .ref (sm_a v 68)), (1, .int w1)] := hl
          refine lv_goto hx hb d_Model_twice_124 rfl ?_
          exact hout7 _ _ _ ls hl hf
    · have hf := sm_f h28_5 hf
      refine lv_aload_n hx hb d_Model_twice_31 rfl (lv_at hl 5 rfl) ?_
      refine gf_Model_19 hC hK hG d_Model_twice_32 ?_
      refine lv_bipush (v := 8) hx hb d_Model_twice_35 (by decide) ?_
      refine lv_iload hx hb d_Model_twice_37 (lv_at hl 2 rfl) ?_
      refine lv_imul hx hb d_Model_twice_39 ?_
      refine lv_iload hx hb d_Model_twice_40 (lv_at hl 0 rfl) ?_
      refine lv_iadd hx hb d_Model_twice_42 ?_
      obtain ⟨h43_8, hf⟩ := sm_of_gd hf
      refine sm_iald hC hK hG (by decide) rfl h43_8 d_Model_twice_43 ?_
      refine lv_iload_n hx hb d_Model_twice_44 rfl (lv_at hl 6 rfl) ?_
      refine lv_icmp_ne hx hb d_Model_twice_45 rfl (fun h45_9 => ?_) (fun h45_9 => ?_)
      · have hf := sm_f h45_9 hf
        refine lv_iconst (v := 0) hx hb d_Model_twice_52 (by decide) ?_
        exact jw_Model_twice_53 hC hr hlk hK M w6 w5 w4 w3 w2 w1 (0 : Int32) _ ih hG hl hf
      · have hf := sm_t h45_9 hf
        refine lv_iconst (v := 1) hx hb d_Model_twice_48 (by decide) ?_
        refine lv_goto hx hb d_Model_twice_49 rfl ?_
        exact jw_Model_twice_53 hC hr hlk hK M w6 w5 w4 w3 w2 w1 (1 : Int32) _ ih hG hl hf
set_option maxHeartbeats 4000000 in
set_option maxRecDepth 100000 in
theorem lw_Model_twice_7 {p : Program} {l : Launch} {e : Env} {s : State} {m : MethodId} {args : Array Value} {below : List Frame} {meth : Method} {c : Code} {v : sm_V} {o : sm_O} {r : Int32} (hC : CallFix p m c b_Model_twice 8 s args w_Model_twice R_Model) (hr : meth.sig.returnType = some .boolean) (hlk : meth.locks = false) (hK : sm_K v s) (M : sm_M) (w1 : Int32) (hG : sm_G v M o s s.heap []) :
    ∀ (n : Nat) (w4 : Int32) (w3 : Int32) (w2 : Int32) (ls : Array Slot), lv_has ls 8 [(4, .int w4), (3, .int w3), (2, .int w2), (0, .ref (sm_a v 68)), (1, .int w1)] → sm_lp3 (g_Model_twice_7 M w1) n w4 w3 w2 = some r → W p l e rm_Model_twice s m args below meth c s.heap [] 0 0 (MQ below (sm_Qi0 r) args s 0 0 (fun _ => False)) (F0 m 7 ls []) := by
  have hx := hC.1
  have hb := hC.2.1
  intro n
  induction n with
  | zero =>
    intro w4 w3 w2 ls hl hf
    cases hf
  | succ n ih =>
    intro w4 w3 w2 ls hl hf
    have hf : g_Model_twice_7 M w1 (sm_lp3 (g_Model_twice_7 M w1) n) w4 w3 w2 = some r := hf
    unfold g_Model_twice_7 at hf
    refine lv_iload hx hb d_Model_twice_7 (lv_at hl 0 rfl) ?_
    refine lv_iconst (v := 4) hx hb d_Model_twice_9 (by decide) ?_
    refine lv_icmp_ge hx hb d_Model_twice_10 rfl (fun h10_1 => ?_) (fun h10_1 => ?_)
    · have hf := sm_t h10_1 hf
      refine lv_iload_n hx hb d_Model_twice_127 rfl (lv_at hl 1 rfl) ?_
      refine lv_if_ne hx hb d_Model_twice_128 rfl (fun h128_2 => ?_) (fun h128_2 => ?_)
      · have hf := sm_f h128_2 hf
        refine lv_iconst (v := 1) hx hb d_Model_twice_136 (by decide) ?_
        refine lv_goto hx hb d_Model_twice_137 rfl ?_
        obtain rfl := Option.some.inj hf
        exact sm_zret0 hC hr rfl hlk d_Model_twice_141
      · have hf := sm_t h128_2 hf
        refine lv_iload_n hx hb d_Model_twice_131 rfl (lv_at hl 2 rfl) ?_
        refine lv_iconst (v := 1) hx hb d_Model_twice_132 (by decide) ?_
        refine lv_icmp_le hx hb d_Model_twice_133 rfl (fun h133_3 => ?_) (fun h133_3 => ?_)
        · have hf := sm_t h133_3 hf
          refine lv_iconst (v := 0) hx hb d_Model_twice_140 (by decide) ?_
          obtain rfl := Option.some.inj hf
          exact sm_zret0 hC hr rfl hlk d_Model_twice_141
        · have hf := sm_f h133_3 hf
          refine lv_iconst (v := 1) hx hb d_Model_twice_136 (by decide) ?_
          refine lv_goto hx hb d_Model_twice_137 rfl ?_
          obtain rfl := Option.some.inj hf
          exact sm_zret0 hC hr rfl hlk d_Model_twice_141
    · have hf := sm_f h10_1 hf
      refine lv_iconst (v := 0) hx hb d_Model_twice_13 (by decide) ?_
      refine lv_istore hx hb d_Model_twice_14 hl (Nat.le_of_ble_eq_true rfl) rfl (fun ls hl => ?_)
      have hl : lv_has ls 8 [(5, .int (0 : Int32)), (4, .int w4), (3, .int w3), (2, .int w2), (0, .ref (sm_a v 68)), (1, .int w1)] := hl
      refine lv_iconst (v := 0) hx hb d_Model_twice_16 (by decide) ?_
      refine lv_istore hx hb d_Model_twice_17 hl (Nat.le_of_ble_eq_true rfl) rfl (fun ls hl => ?_)
      have hl : lv_has ls 8 [(6, .int (0 : Int32)), (5, .int (0 : Int32)), (4, .int w4), (3, .int w3), (2, .int w2), (0, .ref (sm_a v 68)), (1, .int w1)] := hl
      exact lw_Model_twice_19 hC hr hlk hK M w4 w3 w1 hG _ ih 1100 _ _ _ ls hl hf
set_option maxHeartbeats 4000000 in
set_option maxRecDepth 100000 in
theorem c_Model_twice {l : Launch} {v : sm_V} {o : sm_O} {M : sm_M} {a0 : Int32} {r : Int32} (hf : f_Model_twice M a0 = some r) : sm_Ri l y_Model_twice w_Model_twice rm_Model_twice v [.ref (sm_a v 68), .int a0] M o r  := by
  refine sm_met (cc := b_Model_twice) (nL := 8) (ret := some .boolean) (plainFor_of_name (by decide)) rfl (Nat.le_of_ble_eq_true rfl) (fun p e s m args below meth c hC hr hlk hK hG ls hl => ?_)
  have hx := hC.1
  have hb := hC.2.1
  have hl : lv_has ls 8 [(0, .ref (sm_a v 68)), (1, .int a0)] := hl
  unfold f_Model_twice at hf
  refine lv_iconst (v := 0) hx hb d_Model_twice_0 (by decide) ?_
  refine lv_istore_n hx hb d_Model_twice_1 rfl hl (Nat.le_of_ble_eq_true rfl) rfl (fun ls hl => ?_)
  have hl : lv_has ls 8 [(2, .int (0 : Int32)), (0, .ref (sm_a v 68)), (1, .int a0)] := hl
  refine lv_iconst (v := 0) hx hb d_Model_twice_2 (by decide) ?_
  refine lv_istore_n hx hb d_Model_twice_3 rfl hl (Nat.le_of_ble_eq_true rfl) rfl (fun ls hl => ?_)
  have hl : lv_has ls 8 [(3, .int (0 : Int32)), (2, .int (0 : Int32)), (0, .ref (sm_a v 68)), (1, .int a0)] := hl
  refine lv_iconst (v := 0) hx hb d_Model_twice_4 (by decide) ?_
  refine lv_istore hx hb d_Model_twice_5 hl (Nat.le_of_ble_eq_true rfl) rfl (fun ls hl => ?_)
  have hl : lv_has ls 8 [(4, .int (0 : Int32)), (3, .int (0 : Int32)), (2, .int (0 : Int32)), (0, .ref (sm_a v 68)), (1, .int a0)] := hl
  exact lw_Model_twice_7 hC hr hlk hK M a0 hG 1100 _ _ _ ls hl hf
theorem ca_Model_101 {p : Program} {l : Launch} {e : Env} {R : Room} {s : State} {m : MethodId} {args : Array Value} {below : List Frame} {meth : Method} {c : Code} {H : Heap} {locs : List Loc} {cells slots : Nat} {Q : State → Prop} {cc : ByteArray} {nL pc : Nat} {ls : Array Slot} {rest : List Value} {w0 : Cond} {v : sm_V} {M : sm_M} {o : sm_O} {x0 : Int32} {r : Int32} (hC : CallFix p m c cc nL s args (w0 :: sm_AW) R_Model) (hK : sm_K v s) (hG : sm_G v M o s H locs) (hM : sm_Ri l y_Model_globalOne w_Model_globalOne rm_Model_globalOne v [.ref (sm_a v 68), .int x0] M o r) (hsz : ls.size = nL) (hR : rm_Model_globalOne.frames + 1 ≤ R.frames ∧ 8 + (5 + 11) + rm_Model_globalOne.locals ≤ R.locals) (hcs : cells + 0 ≤ R.cells ∧ slots + 0 ≤ R.slots) (hW : (rest.map fun v => v.category).sum ≤ 8) (hdg : decode cc pc = .ok (.invokevirtual 101, 3))
    (kk : W p l e R s m args below meth c H locs cells slots Q (F0 m (pc + 3) ls (.int r :: rest))) : W p l e R s m args below meth c H locs cells slots Q (F0 m pc ls (.int x0 :: .ref (sm_a v 68) :: rest)) :=
  sm_calli0 (va_runV (C := R_Model) (As := [.int x0]) (rest := rest) hC hM (cwV 1 hC.2.2.2.2 (sm_good (sm_inV aw_845 aw_847 as_33 aw_7 aw_848)) rfl rfl rfl (by decide +kernel) hR) (sm_preV hK hG (by decide) rfl rfl) rfl rfl hsz rfl (lv_room hW) hdg hcs) kk
abbrev w_Model_needed : List Cond := Cond.code y_Model_needed b_Model_needed 4 (some .int) :: sm_AW
abbrev rm_Model_needed : Room := { frames := 2, cells := 0, slots := 0, locals := 49 }
def f_Model_needed (M : sm_M) (a0 : Int32) (a1 : Int32) : Option (Int32) :=
sm_b1 (f_Model_definition M a0 a1 (1 : Int32)) fun r4_2 =>
(if r4_2 = (-1 : Int32) then
sm_b1 (f_Model_globalOne M a1) fun r19_6 =>
(some r19_6)
else
(some r4_2))
set_option maxHeartbeats 4000000 in
set_option maxRecDepth 100000 in
theorem c_Model_needed {l : Launch} {v : sm_V} {o : sm_O} {M : sm_M} {a0 : Int32} {a1 : Int32} {r : Int32} (hf : f_Model_needed M a0 a1 = some r) : sm_Ri l y_Model_needed w_Model_needed rm_Model_needed v [.ref (sm_a v 68), .int a0, .int a1] M o r  := by
  refine sm_met (cc := b_Model_needed) (nL := 4) (ret := some .int) (plainFor_of_name (by decide)) rfl (Nat.le_of_ble_eq_true rfl) (fun p e s m args below meth c hC hr hlk hK hG ls hl => ?_)
  have hx := hC.1
  have hb := hC.2.1
  have hl : lv_has ls 4 [(0, .ref (sm_a v 68)), (1, .int a0), (2, .int a1)] := hl
  unfold f_Model_needed at hf
  refine lv_aload_n hx hb d_Model_needed_0 rfl (lv_at hl 0 rfl) ?_
  refine lv_iload_n hx hb d_Model_needed_1 rfl (lv_at hl 1 rfl) ?_
  refine lv_iload_n hx hb d_Model_needed_2 rfl (lv_at hl 2 rfl) ?_
  refine lv_iconst (v := 1) hx hb d_Model_needed_3 (by decide) ?_
  obtain ⟨r4_2, hc4_1, hf⟩ := sm_of_b1 hf
  refine ca_Model_97 hC hK hG (c_Model_definition hc4_1) hl.1 ⟨Nat.le_of_ble_eq_true rfl, Nat.le_of_ble_eq_true rfl⟩ ⟨Nat.zero_le _, Nat.zero_le _⟩ (Nat.le_of_ble_eq_true rfl) d_Model_needed_4 ?_
  refine lv_istore_n hx hb d_Model_needed_7 rfl hl (Nat.le_of_ble_eq_true rfl) rfl (fun ls hl => ?_)
  have hl : lv_has ls 4 [(3, .int r4_2), (0, .ref (sm_a v 68)), (1, .int a0), (2, .int a1)] := hl
  have hl : lv_has ls 4 [(3, .int r4_2), (0, .ref (sm_a v 68)), (2, .int a1)] := lv_sub hl [0, 1, 3] rfl
  refine lv_iload_n hx hb d_Model_needed_8 rfl (lv_at hl 0 rfl) ?_
  refine lv_iconst (v := -1) hx hb d_Model_needed_9 (by decide) ?_
  refine lv_icmp_eq hx hb d_Model_needed_10 rfl (fun h10_4 => ?_) (fun h10_4 => ?_)
  · have hf := sm_t h10_4 hf
    refine lv_aload_n hx hb d_Model_needed_17 rfl (lv_at hl 1 rfl) ?_
    refine lv_iload_n hx hb d_Model_needed_18 rfl (lv_at hl 2 rfl) ?_
    obtain ⟨r19_6, hc19_5, hf⟩ := sm_of_b1 hf
    refine ca_Model_101 hC hK hG (c_Model_globalOne hc19_5) hl.1 ⟨Nat.le_of_ble_eq_true rfl, Nat.le_of_ble_eq_true rfl⟩ ⟨Nat.zero_le _, Nat.zero_le _⟩ (Nat.le_of_ble_eq_true rfl) d_Model_needed_19 ?_
    obtain rfl := Option.some.inj hf
    exact sm_iret0 hC hr hlk d_Model_needed_22
  · have hf := sm_f h10_4 hf
    refine lv_iload_n hx hb d_Model_needed_13 rfl (lv_at hl 0 rfl) ?_
    refine lv_goto hx hb d_Model_needed_14 rfl ?_
    obtain rfl := Option.some.inj hf
    exact sm_iret0 hC hr hlk d_Model_needed_22
abbrev w_Model_valueOf : List Cond := Cond.code y_Model_valueOf b_Model_valueOf 2 (some .int) :: sm_AW
abbrev rm_Model_valueOf : Room := { frames := 0, cells := 0, slots := 0, locals := 0 }
def f_Model_valueOf (M : sm_M) (a0 : Int32) : Option (Int32) :=
sm_gd a0 32 (
sm_gd (((2 : Int32) * (a0 / (8 : Int32))) + (M 73 (Int32.toNatClampNeg a0))) 8 (
sm_gd a0 32 (
(some ((M 83 (Int32.toNatClampNeg (((2 : Int32) * (a0 / (8 : Int32))) + (M 73 (Int32.toNatClampNeg a0))))) + ((4 : Int32) * (M 74 (Int32.toNatClampNeg a0))))))))
set_option maxHeartbeats 4000000 in
set_option maxRecDepth 100000 in
theorem c_Model_valueOf {l : Launch} {v : sm_V} {o : sm_O} {M : sm_M} {a0 : Int32} {r : Int32} (hf : f_Model_valueOf M a0 = some r) : sm_Ri l y_Model_valueOf w_Model_valueOf rm_Model_valueOf v [.ref (sm_a v 68), .int a0] M o r  := by
  refine sm_met (cc := b_Model_valueOf) (nL := 2) (ret := some .int) (plainFor_of_name (by decide)) rfl (Nat.le_of_ble_eq_true rfl) (fun p e s m args below meth c hC hr hlk hK hG ls hl => ?_)
  have hx := hC.1
  have hb := hC.2.1
  have hl : lv_has ls 2 [(0, .ref (sm_a v 68)), (1, .int a0)] := hl
  unfold f_Model_valueOf at hf
  refine lv_aload_n hx hb d_Model_valueOf_0 rfl (lv_at hl 0 rfl) ?_
  refine gf_Model_53 hC hK hG d_Model_valueOf_1 ?_
  refine lv_iconst (v := 2) hx hb d_Model_valueOf_4 (by decide) ?_
  refine lv_iload_n hx hb d_Model_valueOf_5 rfl (lv_at hl 1 rfl) ?_
  refine lv_bipush (v := 8) hx hb d_Model_valueOf_6 (by decide) ?_
  refine lv_idiv hx hb d_Model_valueOf_8 (by decide) ?_
  refine lv_imul hx hb d_Model_valueOf_9 ?_
  refine lv_aload_n hx hb d_Model_valueOf_10 rfl (lv_at hl 0 rfl) ?_
  refine gf_Model_22 hC hK hG d_Model_valueOf_11 ?_
  refine lv_iload_n hx hb d_Model_valueOf_14 rfl (lv_at hl 1 rfl) ?_
  obtain ⟨h15_1, hf⟩ := sm_of_gd hf
  refine sm_iald hC hK hG (by decide) rfl h15_1 d_Model_valueOf_15 ?_
  refine lv_iadd hx hb d_Model_valueOf_16 ?_
  obtain ⟨h17_2, hf⟩ := sm_of_gd hf
  refine sm_iald hC hK hG (by decide) rfl h17_2 d_Model_valueOf_17 ?_
  refine lv_iconst (v := 4) hx hb d_Model_valueOf_18 (by decide) ?_
  refine lv_aload_n hx hb d_Model_valueOf_19 rfl (lv_at hl 0 rfl) ?_
  refine gf_Model_25 hC hK hG d_Model_valueOf_20 ?_
  refine lv_iload_n hx hb d_Model_valueOf_23 rfl (lv_at hl 1 rfl) ?_
  obtain ⟨h24_3, hf⟩ := sm_of_gd hf
  refine sm_iald hC hK hG (by decide) rfl h24_3 d_Model_valueOf_24 ?_
  refine lv_imul hx hb d_Model_valueOf_25 ?_
  refine lv_iadd hx hb d_Model_valueOf_26 ?_
  obtain rfl := Option.some.inj hf
  exact sm_iret0 hC hr hlk d_Model_valueOf_27
abbrev w_Model_with : List Cond := Cond.code y_Model_with b_Model_with 3 (some .int) :: sm_AW
abbrev rm_Model_with : Room := { frames := 0, cells := 0, slots := 0, locals := 0 }
def f_Model_with (a0 : Int32) (a1 : Int32) (a2 : Int32) : Option (Int32) :=
(some ((a0 &&& (((1 : Int32) <<< (a1 &&& 31)) - (1 : Int32))) ||| (a2 <<< (a1 &&& 31))))
set_option maxHeartbeats 4000000 in
set_option maxRecDepth 100000 in
theorem c_Model_with {l : Launch} {v : sm_V} {o : sm_O} {M : sm_M} {a0 : Int32} {a1 : Int32} {a2 : Int32} {r : Int32} (hf : f_Model_with a0 a1 a2 = some r) : sm_Ri l y_Model_with w_Model_with rm_Model_with v [.int a0, .int a1, .int a2] M o r  := by
  refine sm_met (cc := b_Model_with) (nL := 3) (ret := some .int) (plainFor_of_name (by decide)) rfl (Nat.le_of_ble_eq_true rfl) (fun p e s m args below meth c hC hr hlk hK hG ls hl => ?_)
  have hx := hC.1
  have hb := hC.2.1
  have hl : lv_has ls 3 [(0, .int a0), (1, .int a1), (2, .int a2)] := hl
  unfold f_Model_with at hf
  refine lv_iload_n hx hb d_Model_with_0 rfl (lv_at hl 0 rfl) ?_
  refine lv_iconst (v := 1) hx hb d_Model_with_1 (by decide) ?_
  refine lv_iload_n hx hb d_Model_with_2 rfl (lv_at hl 1 rfl) ?_
  refine lv_ishl hx hb d_Model_with_3 ?_
  refine lv_iconst (v := 1) hx hb d_Model_with_4 (by decide) ?_
  refine lv_isub hx hb d_Model_with_5 ?_
  refine lv_iand hx hb d_Model_with_6 ?_
  refine lv_iload_n hx hb d_Model_with_7 rfl (lv_at hl 2 rfl) ?_
  refine lv_iload_n hx hb d_Model_with_8 rfl (lv_at hl 1 rfl) ?_
  refine lv_ishl hx hb d_Model_with_9 ?_
  refine lv_ior hx hb d_Model_with_10 ?_
  obtain rfl := Option.some.inj hf
  exact sm_iret0 hC hr hlk d_Model_with_11
theorem ca_Model_104 {p : Program} {l : Launch} {e : Env} {R : Room} {s : State} {m : MethodId} {args : Array Value} {below : List Frame} {meth : Method} {c : Code} {H : Heap} {locs : List Loc} {cells slots : Nat} {Q : State → Prop} {cc : ByteArray} {nL pc : Nat} {ls : Array Slot} {rest : List Value} {w0 : Cond} {v : sm_V} {M : sm_M} {o : sm_O} {x0 : Int32} {x1 : Int32} {r : Int32} (hC : CallFix p m c cc nL s args (w0 :: sm_AW) R_Model) (hK : sm_K v s) (hG : sm_G v M o s H locs) (hM : sm_Ri l y_Model_needed w_Model_needed rm_Model_needed v [.ref (sm_a v 68), .int x0, .int x1] M o r) (hsz : ls.size = nL) (hR : rm_Model_needed.frames + 1 ≤ R.frames ∧ 8 + (4 + 11) + rm_Model_needed.locals ≤ R.locals) (hcs : cells + 0 ≤ R.cells ∧ slots + 0 ≤ R.slots) (hW : (rest.map fun v => v.category).sum ≤ 8) (hdg : decode cc pc = .ok (.invokevirtual 104, 3))
    (kk : W p l e R s m args below meth c H locs cells slots Q (F0 m (pc + 3) ls (.int r :: rest))) : W p l e R s m args below meth c H locs cells slots Q (F0 m pc ls (.int x1 :: .int x0 :: .ref (sm_a v 68) :: rest)) :=
  sm_calli0 (va_runV (C := R_Model) (As := [.int x0, .int x1]) (rest := rest) hC hM (cwV 2 hC.2.2.2.2 (sm_good (sm_inV aw_837 aw_839 as_31 aw_7 aw_840)) rfl rfl rfl (by decide +kernel) hR) (sm_preV hK hG (by decide) rfl rfl) rfl rfl hsz rfl (lv_room hW) hdg hcs) kk
theorem ca_Model_108 {p : Program} {l : Launch} {e : Env} {R : Room} {s : State} {m : MethodId} {args : Array Value} {below : List Frame} {meth : Method} {c : Code} {H : Heap} {locs : List Loc} {cells slots : Nat} {Q : State → Prop} {cc : ByteArray} {nL pc : Nat} {ls : Array Slot} {rest : List Value} {w0 : Cond} {v : sm_V} {M : sm_M} {o : sm_O} {x0 : Int32} {r : Int32} (hC : CallFix p m c cc nL s args (w0 :: sm_AW) R_Model) (hK : sm_K v s) (hG : sm_G v M o s H locs) (hM : sm_Ri l y_Model_valueOf w_Model_valueOf rm_Model_valueOf v [.ref (sm_a v 68), .int x0] M o r) (hsz : ls.size = nL) (hR : rm_Model_valueOf.frames + 1 ≤ R.frames ∧ 8 + (2 + 11) + rm_Model_valueOf.locals ≤ R.locals) (hcs : cells + 0 ≤ R.cells ∧ slots + 0 ≤ R.slots) (hW : (rest.map fun v => v.category).sum ≤ 8) (hdg : decode cc pc = .ok (.invokevirtual 108, 3))
    (kk : W p l e R s m args below meth c H locs cells slots Q (F0 m (pc + 3) ls (.int r :: rest))) : W p l e R s m args below meth c H locs cells slots Q (F0 m pc ls (.int x0 :: .ref (sm_a v 68) :: rest)) :=
  sm_calli0 (va_runV (C := R_Model) (As := [.int x0]) (rest := rest) hC hM (cwV 1 hC.2.2.2.2 (sm_good (sm_inV aw_853 aw_855 as_35 aw_7 aw_856)) rfl rfl rfl (by decide +kernel) hR) (sm_preV hK hG (by decide) rfl rfl) rfl rfl hsz rfl (lv_room hW) hdg hcs) kk
theorem ca_Model_111 {p : Program} {l : Launch} {e : Env} {R : Room} {s : State} {m : MethodId} {args : Array Value} {below : List Frame} {meth : Method} {c : Code} {H : Heap} {locs : List Loc} {cells slots : Nat} {Q : State → Prop} {cc : ByteArray} {nL pc : Nat} {ls : Array Slot} {rest : List Value} {w0 : Cond} {v : sm_V} {M : sm_M} {o : sm_O} {x0 : Int32} {x1 : Int32} {x2 : Int32} {r : Int32} (hC : CallFix p m c cc nL s args (w0 :: sm_AW) R_Model) (hK : sm_K v s) (hG : sm_G v M o s H locs) (hM : sm_Ri l y_Model_with w_Model_with rm_Model_with v [.int x0, .int x1, .int x2] M o r) (hsz : ls.size = nL) (hR : rm_Model_with.frames + 1 ≤ R.frames ∧ 8 + (3 + 11) + rm_Model_with.locals ≤ R.locals) (hcs : cells + 0 ≤ R.cells ∧ slots + 0 ≤ R.slots) (hW : (rest.map fun v => v.category).sum ≤ 8) (hdg : decode cc pc = .ok (.invokestatic 111, 3))
    (kk : W p l e R s m args below meth c H locs cells slots Q (F0 m (pc + 3) ls (.int r :: rest))) : W p l e R s m args below meth c H locs cells slots Q (F0 m pc ls (.int x2 :: .int x1 :: .int x0 :: rest)) :=
  sm_calli0 (va_runS (As := [.int x0, .int x1, .int x2]) (rest := rest) hC hM (cwS 3 hC.2.2.2.2 (sm_good (sm_inS aw_857 aw_858 aw_7 aw_859)) rfl rfl rfl (by decide +kernel) hR) (sm_preS hK hG) rfl rfl hsz rfl (lv_room hW) hdg hcs) kk
abbrev w_Model_makes : List Cond := Cond.code y_Model_makes b_Model_makes 10 (some .boolean) :: sm_AW
abbrev rm_Model_makes : Room := { frames := 3, cells := 0, slots := 0, locals := 72 }
def j_Model_makes_142 (M : sm_M) (y9 : Int32) (y8 : Int32) (y7 : Int32) (y6 : Int32) (y3 : Int32) : Option (Int32 × sm_M) :=
(if y8 = 0 then
sm_gd y3 192 (
sm_nm (sm_up M 82 (Int32.toNatClampNeg y3) y6) fun M222_49 =>
(some ((1 : Int32), M222_49)))
else
(if y8 = (1 : Int32) then
sm_b1 (f_Model_with y7 (12 : Int32) ((y6 + (2048 : Int32)) >>> ((12 : Int32) &&& 31))) fun r176_44 =>
sm_gd y3 192 (
sm_nm (sm_up M 82 (Int32.toNatClampNeg y3) r176_44) fun M222_47 =>
(some ((1 : Int32), M222_47)))
else
(if y8 = (2 : Int32) then
sm_b1 (f_Model_with y7 (20 : Int32) y6) fun r194_39 =>
sm_gd y3 192 (
sm_nm (sm_up M 82 (Int32.toNatClampNeg y3) r194_39) fun M222_42 =>
(some ((1 : Int32), M222_42)))
else
(if y8 = (3 : Int32) then
sm_b1 (f_Model_with y7 (20 : Int32) (y9 / (2 : Int32))) fun r219_34 =>
sm_gd y3 192 (
sm_nm (sm_up M 82 (Int32.toNatClampNeg y3) r219_34) fun M222_37 =>
(some ((1 : Int32), M222_37)))
else
sm_b1 (f_Model_with y7 (10 : Int32) (y9 / (2 : Int32))) fun r219_29 =>
sm_gd y3 192 (
sm_nm (sm_up M 82 (Int32.toNatClampNeg y3) r219_29) fun M222_32 =>
(some ((1 : Int32), M222_32)))))))
def j_Model_makes_134 (M : sm_M) (y9 : Int32) (y8 : Int32) (y7 : Int32) (y6 : Int32) (y3 : Int32) (z0 : Int32) (z1 : Int32) : Option (Int32 × sm_M) :=
sm_b1 (f_Model_fits z1 z0) fun r134_53 =>
(if r134_53 = 0 then
(some ((0 : Int32), M))
else
j_Model_makes_142 M y9 y8 y7 y6 y3)
def f_Model_makes (M : sm_M) (a0 : Int32) : Option (Int32 × sm_M) :=
sm_nm (a0 / (16 : Int32)) fun x4_1 =>
sm_gd a0 64 (
sm_gd a0 64 (
sm_nm ((((48 : Int32) * x4_1) + ((24 : Int32) * (M 77 (Int32.toNatClampNeg a0)))) + (M 78 (Int32.toNatClampNeg a0))) fun x26_4 =>
sm_gd a0 64 (
sm_gd (((2 : Int32) * x4_1) + (M 77 (Int32.toNatClampNeg a0))) 8 (
sm_gd a0 64 (
sm_nm ((M 83 (Int32.toNatClampNeg (((2 : Int32) * x4_1) + (M 77 (Int32.toNatClampNeg a0))))) + ((4 : Int32) * (M 78 (Int32.toNatClampNeg a0)))) fun x51_8 =>
sm_gd a0 64 (
sm_b1 (f_Model_needed M x4_1 (M 80 (Int32.toNatClampNeg a0))) fun r61_11 =>
sm_b1 (f_Model_valueOf M r61_11) fun r69_14 =>
sm_gd a0 64 (
sm_nm (r69_14 + (M 81 (Int32.toNatClampNeg a0))) fun x79_17 =>
sm_gd x26_4 192 (
sm_nm (M 82 (Int32.toNatClampNeg x26_4)) fun x87_19 =>
sm_gd a0 64 (
sm_nm (M 79 (Int32.toNatClampNeg a0)) fun x95_21 =>
sm_nm (x79_17 - x51_8) fun x102_22 =>
(if x95_21 ≤ (2 : Int32) then
j_Model_makes_142 M x102_22 x95_21 x87_19 x79_17 x26_4
else
(if (x102_22 - x102_22 / (2 : Int32) * (2 : Int32)) = 0 then
(if x95_21 = (3 : Int32) then
j_Model_makes_134 M x102_22 x95_21 x87_19 x79_17 x26_4 (12 : Int32) (x102_22 / (2 : Int32))
else
j_Model_makes_134 M x102_22 x95_21 x87_19 x79_17 x26_4 (22 : Int32) (x102_22 / (2 : Int32)))
else
(some ((0 : Int32), M)))))))))))))
set_option maxHeartbeats 4000000 in
set_option maxRecDepth 100000 in
theorem jw_Model_makes_142 {p : Program} {l : Launch} {e : Env} {s : State} {m : MethodId} {args : Array Value} {below : List Frame} {meth : Method} {c : Code} {v : sm_V} {o : sm_O} {r : Int32} {M' : sm_M} (hC : CallFix p m c b_Model_makes 10 s args w_Model_makes R_Model) (hr : meth.sig.returnType = some .boolean) (hlk : meth.locks = false) (hK : sm_K v s) (M : sm_M) (y9 : Int32) (y8 : Int32) (y7 : Int32) (y6 : Int32) (y3 : Int32) {H : Heap} {locs : List Loc} {ls : Array Slot} (hG : sm_G v M o s H locs) (hl : lv_has ls 10 [(9, .int y9), (8, .int y8), (7, .int y7), (6, .int y6), (3, .int y3), (0, .ref (sm_a v 68))]) (hf : j_Model_makes_142 M y9 y8 y7 y6 y3 = some (r, M')) : W p l e rm_Model_makes s m args below meth c H locs 0 0 (MQ below (sm_Qi v M' o r) args s 0 0 (sm_A v)) (F0 m 142 ls []) := by
  have hx := hC.1
  have hb := hC.2.1
  unfold j_Model_makes_142 at hf
  refine lv_aload_n hx hb d_Model_makes_142 rfl (lv_at hl 5 rfl) ?_
  refine gf_Model_50 hC hK hG d_Model_makes_143 ?_
  refine lv_iload_n hx hb d_Model_makes_146 rfl (lv_at hl 4 rfl) ?_
  refine lv_iload hx hb d_Model_makes_147 (lv_at hl 1 rfl) ?_
  refine lv_if_ne hx hb d_Model_makes_149 rfl (fun h149_24 => ?_) (fun h149_24 => ?_)
  · have hf := sm_f h149_24 hf
    refine lv_iload hx hb d_Model_makes_157 (lv_at hl 1 rfl) ?_
    refine lv_iconst (v := 1) hx hb d_Model_makes_159 (by decide) ?_
    refine lv_icmp_ne hx hb d_Model_makes_160 rfl (fun h160_25 => ?_) (fun h160_25 => ?_)
    · have hf := sm_f h160_25 hf
      refine lv_iload hx hb d_Model_makes_182 (lv_at hl 1 rfl) ?_
      refine lv_iconst (v := 2) hx hb d_Model_makes_184 (by decide) ?_
      refine lv_icmp_ne hx hb d_Model_makes_185 rfl (fun h185_26 => ?_) (fun h185_26 => ?_)
      · have hf := sm_f h185_26 hf
        refine lv_iload hx hb d_Model_makes_200 (lv_at hl 2 rfl) ?_
        refine lv_iload hx hb d_Model_makes_202 (lv_at hl 1 rfl) ?_
        refine lv_iconst (v := 3) hx hb d_Model_makes_204 (by decide) ?_
        refine lv_icmp_ne hx hb d_Model_makes_205 rfl (fun h205_27 => ?_) (fun h205_27 => ?_)
        · have hf := sm_f h205_27 hf
          refine lv_bipush (v := 10) hx hb d_Model_makes_213 (by decide) ?_
          refine lv_iload hx hb d_Model_makes_215 (lv_at hl 0 rfl) ?_
          refine lv_iconst (v := 2) hx hb d_Model_makes_217 (by decide) ?_
          refine lv_idiv hx hb d_Model_makes_218 (by decide) ?_
          obtain ⟨r219_29, hc219_28, hf⟩ := sm_of_b1 hf
          refine ca_Model_111 hC hK hG (c_Model_with hc219_28) hl.1 ⟨Nat.le_of_ble_eq_true rfl, Nat.le_of_ble_eq_true rfl⟩ ⟨Nat.zero_le _, Nat.zero_le _⟩ (Nat.le_of_ble_eq_true rfl) d_Model_makes_219 ?_
          obtain ⟨h222_31, hf⟩ := sm_of_gd hf
          refine sm_iast hC hK hG (by decide) rfl h222_31 d_Model_makes_222 (fun M222_32 H locs eM222_32 hG => ?_)
          have hf := sm_of eM222_32 hf
          refine lv_iconst (v := 1) hx hb d_Model_makes_223 (by decide) ?_
          obtain ⟨rfl, rfl⟩ := Prod.mk.inj (Option.some.inj hf)
          exact sm_zret hC hr rfl hlk hG d_Model_makes_224
        · have hf := sm_t h205_27 hf
          refine lv_bipush (v := 20) hx hb d_Model_makes_208 (by decide) ?_
          refine lv_goto hx hb d_Model_makes_210 rfl ?_
          refine lv_iload hx hb d_Model_makes_215 (lv_at hl 0 rfl) ?_
          refine lv_iconst (v := 2) hx hb d_Model_makes_217 (by decide) ?_
          refine lv_idiv hx hb d_Model_makes_218 (by decide) ?_
          obtain ⟨r219_34, hc219_33, hf⟩ := sm_of_b1 hf
          refine ca_Model_111 hC hK hG (c_Model_with hc219_33) hl.1 ⟨Nat.le_of_ble_eq_true rfl, Nat.le_of_ble_eq_true rfl⟩ ⟨Nat.zero_le _, Nat.zero_le _⟩ (Nat.le_of_ble_eq_true rfl) d_Model_makes_219 ?_
          obtain ⟨h222_36, hf⟩ := sm_of_gd hf
          refine sm_iast hC hK hG (by decide) rfl h222_36 d_Model_makes_222 (fun M222_37 H locs eM222_37 hG => ?_)
          have hf := sm_of eM222_37 hf
          refine lv_iconst (v := 1) hx hb d_Model_makes_223 (by decide) ?_
          obtain ⟨rfl, rfl⟩ := Prod.mk.inj (Option.some.inj hf)
          exact sm_zret hC hr rfl hlk hG d_Model_makes_224
      · have hf := sm_t h185_26 hf
        refine lv_iload hx hb d_Model_makes_188 (lv_at hl 2 rfl) ?_
        refine lv_bipush (v := 20) hx hb d_Model_makes_190 (by decide) ?_
        refine lv_iload hx hb d_Model_makes_192 (lv_at hl 3 rfl) ?_
        obtain ⟨r194_39, hc194_38, hf⟩ := sm_of_b1 hf
        refine ca_Model_111 hC hK hG (c_Model_with hc194_38) hl.1 ⟨Nat.le_of_ble_eq_true rfl, Nat.le_of_ble_eq_true rfl⟩ ⟨Nat.zero_le _, Nat.zero_le _⟩ (Nat.le_of_ble_eq_true rfl) d_Model_makes_194 ?_
        refine lv_goto hx hb d_Model_makes_197 rfl ?_
        obtain ⟨h222_41, hf⟩ := sm_of_gd hf
        refine sm_iast hC hK hG (by decide) rfl h222_41 d_Model_makes_222 (fun M222_42 H locs eM222_42 hG => ?_)
        have hf := sm_of eM222_42 hf
        refine lv_iconst (v := 1) hx hb d_Model_makes_223 (by decide) ?_
        obtain ⟨rfl, rfl⟩ := Prod.mk.inj (Option.some.inj hf)
        exact sm_zret hC hr rfl hlk hG d_Model_makes_224
    · have hf := sm_t h160_25 hf
      refine lv_iload hx hb d_Model_makes_163 (lv_at hl 2 rfl) ?_
      refine lv_bipush (v := 12) hx hb d_Model_makes_165 (by decide) ?_
      refine lv_iload hx hb d_Model_makes_167 (lv_at hl 3 rfl) ?_
      refine lv_sipush (v := 2048) hx hb d_Model_makes_169 (by decide) ?_
      refine lv_iadd hx hb d_Model_makes_172 ?_
      refine lv_bipush (v := 12) hx hb d_Model_makes_173 (by decide) ?_
      refine lv_ishr hx hb d_Model_makes_175 ?_
      obtain ⟨r176_44, hc176_43, hf⟩ := sm_of_b1 hf
      refine ca_Model_111 hC hK hG (c_Model_with hc176_43) hl.1 ⟨Nat.le_of_ble_eq_true rfl, Nat.le_of_ble_eq_true rfl⟩ ⟨Nat.zero_le _, Nat.zero_le _⟩ (Nat.le_of_ble_eq_true rfl) d_Model_makes_176 ?_
      refine lv_goto hx hb d_Model_makes_179 rfl ?_
      obtain ⟨h222_46, hf⟩ := sm_of_gd hf
      refine sm_iast hC hK hG (by decide) rfl h222_46 d_Model_makes_222 (fun M222_47 H locs eM222_47 hG => ?_)
      have hf := sm_of eM222_47 hf
      refine lv_iconst (v := 1) hx hb d_Model_makes_223 (by decide) ?_
      obtain ⟨rfl, rfl⟩ := Prod.mk.inj (Option.some.inj hf)
      exact sm_zret hC hr rfl hlk hG d_Model_makes_224
  · have hf := sm_t h149_24 hf
    refine lv_iload hx hb d_Model_makes_152 (lv_at hl 3 rfl) ?_
    refine lv_goto hx hb d_Model_makes_154 rfl ?_
    obtain ⟨h222_48, hf⟩ := sm_of_gd hf
    refine sm_iast hC hK hG (by decide) rfl h222_48 d_Model_makes_222 (fun M222_49 H locs eM222_49 hG => ?_)
    have hf := sm_of eM222_49 hf
    refine lv_iconst (v := 1) hx hb d_Model_makes_223 (by decide) ?_
    obtain ⟨rfl, rfl⟩ := Prod.mk.inj (Option.some.inj hf)
    exact sm_zret hC hr rfl hlk hG d_Model_makes_224
set_option maxHeartbeats 4000000 in
set_option maxRecDepth 100000 in
theorem jw_Model_makes_134 {p : Program} {l : Launch} {e : Env} {s : State} {m : MethodId} {args : Array Value} {below : List Frame} {meth : Method} {c : Code} {v : sm_V} {o : sm_O} {r : Int32} {M' : sm_M} (hC : CallFix p m c b_Model_makes 10 s args w_Model_makes R_Model) (hr : meth.sig.returnType = some .boolean) (hlk : meth.locks = false) (hK : sm_K v s) (M : sm_M) (y9 : Int32) (y8 : Int32) (y7 : Int32) (y6 : Int32) (y3 : Int32) (z0 : Int32) (z1 : Int32) {H : Heap} {locs : List Loc} {ls : Array Slot} (hG : sm_G v M o s H locs) (hl : lv_has ls 10 [(9, .int y9), (8, .int y8), (7, .int y7), (6, .int y6), (3, .int y3), (0, .ref (sm_a v 68))]) (hf : j_Model_makes_134 M y9 y8 y7 y6 y3 z0 z1 = some (r, M')) : W p l e rm_Model_makes s m args below meth c H locs 0 0 (MQ below (sm_Qi v M' o r) args s 0 0 (sm_A v)) (F0 m 134 ls [.int z0, .int z1]) := by
  have hx := hC.1
  have hb := hC.2.1
  unfold j_Model_makes_134 at hf
  obtain ⟨r134_53, hc134_52, hf⟩ := sm_of_b1 hf
  refine ca_Model_86 hC hK hG (c_Model_fits hc134_52) hl.1 ⟨Nat.le_of_ble_eq_true rfl, Nat.le_of_ble_eq_true rfl⟩ ⟨Nat.zero_le _, Nat.zero_le _⟩ (Nat.le_of_ble_eq_true rfl) d_Model_makes_134 ?_
  refine lv_if_ne hx hb d_Model_makes_137 rfl (fun h137_55 => ?_) (fun h137_55 => ?_)
  · have hf := sm_f h137_55 hf
    exact jw_Model_makes_142 hC hr hlk hK M y9 y8 y7 y6 y3 hG hl hf
  · have hf := sm_t h137_55 hf
    refine lv_iconst (v := 0) hx hb d_Model_makes_140 (by decide) ?_
    obtain ⟨rfl, rfl⟩ := Prod.mk.inj (Option.some.inj hf)
    exact sm_zret hC hr rfl hlk hG d_Model_makes_141
set_option maxHeartbeats 4000000 in
set_option maxRecDepth 100000 in
theorem c_Model_makes {l : Launch} {v : sm_V} {o : sm_O} {M : sm_M} {a0 : Int32} {r : Int32} {M' : sm_M} (hf : f_Model_makes M a0 = some (r, M')) : sm_Ci l y_Model_makes w_Model_makes rm_Model_makes v [.ref (sm_a v 68), .int a0] M o r M' := by
  refine sm_met (cc := b_Model_makes) (nL := 10) (ret := some .boolean) (plainFor_of_name (by decide)) rfl (Nat.le_of_ble_eq_true rfl) (fun p e s m args below meth c hC hr hlk hK hG ls hl => ?_)
  have hx := hC.1
  have hb := hC.2.1
  have hl : lv_has ls 10 [(0, .ref (sm_a v 68)), (1, .int a0)] := hl
  unfold f_Model_makes at hf
  refine lv_iload_n hx hb d_Model_makes_0 rfl (lv_at hl 1 rfl) ?_
  refine lv_bipush (v := 16) hx hb d_Model_makes_1 (by decide) ?_
  refine lv_idiv hx hb d_Model_makes_3 (by decide) ?_
  refine lv_topi (fun x4_1 ex4_1 => ?_)
  have hf := sm_of ex4_1 hf
  refine lv_istore_n hx hb d_Model_makes_4 rfl hl (Nat.le_of_ble_eq_true rfl) rfl (fun ls hl => ?_)
  have hl : lv_has ls 10 [(2, .int x4_1), (0, .ref (sm_a v 68)), (1, .int a0)] := hl
  refine lv_bipush (v := 48) hx hb d_Model_makes_5 (by decide) ?_
  refine lv_iload_n hx hb d_Model_makes_7 rfl (lv_at hl 0 rfl) ?_
  refine lv_imul hx hb d_Model_makes_8 ?_
  refine lv_bipush (v := 24) hx hb d_Model_makes_9 (by decide) ?_
  refine lv_aload_n hx hb d_Model_makes_11 rfl (lv_at hl 1 rfl) ?_
  refine gf_Model_35 hC hK hG d_Model_makes_12 ?_
  refine lv_iload_n hx hb d_Model_makes_15 rfl (lv_at hl 2 rfl) ?_
  obtain ⟨h16_2, hf⟩ := sm_of_gd hf
  refine sm_iald hC hK hG (by decide) rfl h16_2 d_Model_makes_16 ?_
  refine lv_imul hx hb d_Model_makes_17 ?_
  refine lv_iadd hx hb d_Model_makes_18 ?_
  refine lv_aload_n hx hb d_Model_makes_19 rfl (lv_at hl 1 rfl) ?_
  refine gf_Model_38 hC hK hG d_Model_makes_20 ?_
  refine lv_iload_n hx hb d_Model_makes_23 rfl (lv_at hl 2 rfl) ?_
  obtain ⟨h24_3, hf⟩ := sm_of_gd hf
  refine sm_iald hC hK hG (by decide) rfl h24_3 d_Model_makes_24 ?_
  refine lv_iadd hx hb d_Model_makes_25 ?_
  refine lv_topi (fun x26_4 ex26_4 => ?_)
  have hf := sm_of ex26_4 hf
  refine lv_istore_n hx hb d_Model_makes_26 rfl hl (Nat.le_of_ble_eq_true rfl) rfl (fun ls hl => ?_)
  have hl : lv_has ls 10 [(3, .int x26_4), (2, .int x4_1), (0, .ref (sm_a v 68)), (1, .int a0)] := hl
  refine lv_aload_n hx hb d_Model_makes_27 rfl (lv_at hl 2 rfl) ?_
  refine gf_Model_53 hC hK hG d_Model_makes_28 ?_
  refine lv_iconst (v := 2) hx hb d_Model_makes_31 (by decide) ?_
  refine lv_iload_n hx hb d_Model_makes_32 rfl (lv_at hl 1 rfl) ?_
  refine lv_imul hx hb d_Model_makes_33 ?_
  refine lv_aload_n hx hb d_Model_makes_34 rfl (lv_at hl 2 rfl) ?_
  refine gf_Model_35 hC hK hG d_Model_makes_35 ?_
  refine lv_iload_n hx hb d_Model_makes_38 rfl (lv_at hl 3 rfl) ?_
  obtain ⟨h39_5, hf⟩ := sm_of_gd hf
  refine sm_iald hC hK hG (by decide) rfl h39_5 d_Model_makes_39 ?_
  refine lv_iadd hx hb d_Model_makes_40 ?_
  obtain ⟨h41_6, hf⟩ := sm_of_gd hf
  refine sm_iald hC hK hG (by decide) rfl h41_6 d_Model_makes_41 ?_
  refine lv_iconst (v := 4) hx hb d_Model_makes_42 (by decide) ?_
  refine lv_aload_n hx hb d_Model_makes_43 rfl (lv_at hl 2 rfl) ?_
  refine gf_Model_38 hC hK hG d_Model_makes_44 ?_
  refine lv_iload_n hx hb d_Model_makes_47 rfl (lv_at hl 3 rfl) ?_
  obtain ⟨h48_7, hf⟩ := sm_of_gd hf
  refine sm_iald hC hK hG (by decide) rfl h48_7 d_Model_makes_48 ?_
  refine lv_imul hx hb d_Model_makes_49 ?_
  refine lv_iadd hx hb d_Model_makes_50 ?_
  refine lv_topi (fun x51_8 ex51_8 => ?_)
  have hf := sm_of ex51_8 hf
  refine lv_istore hx hb d_Model_makes_51 hl (Nat.le_of_ble_eq_true rfl) rfl (fun ls hl => ?_)
  have hl : lv_has ls 10 [(4, .int x51_8), (3, .int x26_4), (2, .int x4_1), (0, .ref (sm_a v 68)), (1, .int a0)] := hl
  refine lv_aload_n hx hb d_Model_makes_53 rfl (lv_at hl 3 rfl) ?_
  refine lv_iload_n hx hb d_Model_makes_54 rfl (lv_at hl 2 rfl) ?_
  refine lv_aload_n hx hb d_Model_makes_55 rfl (lv_at hl 3 rfl) ?_
  refine gf_Model_44 hC hK hG d_Model_makes_56 ?_
  refine lv_iload_n hx hb d_Model_makes_59 rfl (lv_at hl 4 rfl) ?_
  obtain ⟨h60_9, hf⟩ := sm_of_gd hf
  refine sm_iald hC hK hG (by decide) rfl h60_9 d_Model_makes_60 ?_
  obtain ⟨r61_11, hc61_10, hf⟩ := sm_of_b1 hf
  refine ca_Model_104 hC hK hG (c_Model_needed hc61_10) hl.1 ⟨Nat.le_of_ble_eq_true rfl, Nat.le_of_ble_eq_true rfl⟩ ⟨Nat.zero_le _, Nat.zero_le _⟩ (Nat.le_of_ble_eq_true rfl) d_Model_makes_61 ?_
  refine lv_istore hx hb d_Model_makes_64 hl (Nat.le_of_ble_eq_true rfl) rfl (fun ls hl => ?_)
  have hl : lv_has ls 10 [(5, .int r61_11), (4, .int x51_8), (3, .int x26_4), (2, .int x4_1), (0, .ref (sm_a v 68)), (1, .int a0)] := hl
  have hl : lv_has ls 10 [(5, .int r61_11), (4, .int x51_8), (3, .int x26_4), (0, .ref (sm_a v 68)), (1, .int a0)] := lv_sub hl [0, 1, 2, 4, 5] rfl
  refine lv_aload_n hx hb d_Model_makes_66 rfl (lv_at hl 3 rfl) ?_
  refine lv_iload hx hb d_Model_makes_67 (lv_at hl 0 rfl) ?_
  obtain ⟨r69_14, hc69_13, hf⟩ := sm_of_b1 hf
  refine ca_Model_108 hC hK hG (c_Model_valueOf hc69_13) hl.1 ⟨Nat.le_of_ble_eq_true rfl, Nat.le_of_ble_eq_true rfl⟩ ⟨Nat.zero_le _, Nat.zero_le _⟩ (Nat.le_of_ble_eq_true rfl) d_Model_makes_69 ?_
  refine lv_aload_n hx hb d_Model_makes_72 rfl (lv_at hl 3 rfl) ?_
  refine gf_Model_47 hC hK hG d_Model_makes_73 ?_
  refine lv_iload_n hx hb d_Model_makes_76 rfl (lv_at hl 4 rfl) ?_
  obtain ⟨h77_16, hf⟩ := sm_of_gd hf
  refine sm_iald hC hK hG (by decide) rfl h77_16 d_Model_makes_77 ?_
  refine lv_iadd hx hb d_Model_makes_78 ?_
  refine lv_topi (fun x79_17 ex79_17 => ?_)
  have hf := sm_of ex79_17 hf
  refine lv_istore hx hb d_Model_makes_79 hl (Nat.le_of_ble_eq_true rfl) rfl (fun ls hl => ?_)
  have hl : lv_has ls 10 [(6, .int x79_17), (5, .int r61_11), (4, .int x51_8), (3, .int x26_4), (0, .ref (sm_a v 68)), (1, .int a0)] := hl
  have hl : lv_has ls 10 [(6, .int x79_17), (4, .int x51_8), (3, .int x26_4), (0, .ref (sm_a v 68)), (1, .int a0)] := lv_sub hl [0, 2, 3, 4, 5] rfl
  refine lv_aload_n hx hb d_Model_makes_81 rfl (lv_at hl 3 rfl) ?_
  refine gf_Model_50 hC hK hG d_Model_makes_82 ?_
  refine lv_iload_n hx hb d_Model_makes_85 rfl (lv_at hl 2 rfl) ?_
  obtain ⟨h86_18, hf⟩ := sm_of_gd hf
  refine sm_iald hC hK hG (by decide) rfl h86_18 d_Model_makes_86 ?_
  refine lv_topi (fun x87_19 ex87_19 => ?_)
  have hf := sm_of ex87_19 hf
  refine lv_istore hx hb d_Model_makes_87 hl (Nat.le_of_ble_eq_true rfl) rfl (fun ls hl => ?_)
  have hl : lv_has ls 10 [(7, .int x87_19), (6, .int x79_17), (4, .int x51_8), (3, .int x26_4), (0, .ref (sm_a v 68)), (1, .int a0)] := hl
  refine lv_aload_n hx hb d_Model_makes_89 rfl (lv_at hl 4 rfl) ?_
  refine gf_Model_41 hC hK hG d_Model_makes_90 ?_
  refine lv_iload_n hx hb d_Model_makes_93 rfl (lv_at hl 5 rfl) ?_
  obtain ⟨h94_20, hf⟩ := sm_of_gd hf
  refine sm_iald hC hK hG (by decide) rfl h94_20 d_Model_makes_94 ?_
  refine lv_topi (fun x95_21 ex95_21 => ?_)
  have hf := sm_of ex95_21 hf
  refine lv_istore hx hb d_Model_makes_95 hl (Nat.le_of_ble_eq_true rfl) rfl (fun ls hl => ?_)
  have hl : lv_has ls 10 [(8, .int x95_21), (7, .int x87_19), (6, .int x79_17), (4, .int x51_8), (3, .int x26_4), (0, .ref (sm_a v 68)), (1, .int a0)] := hl
  have hl : lv_has ls 10 [(8, .int x95_21), (7, .int x87_19), (6, .int x79_17), (4, .int x51_8), (3, .int x26_4), (0, .ref (sm_a v 68))] := lv_sub hl [0, 1, 2, 3, 4, 5] rfl
  refine lv_iload hx hb d_Model_makes_97 (lv_at hl 2 rfl) ?_
  refine lv_iload hx hb d_Model_makes_99 (lv_at hl 3 rfl) ?_
  refine lv_isub hx hb d_Model_makes_101 ?_
  refine lv_topi (fun x102_22 ex102_22 => ?_)
  have hf := sm_of ex102_22 hf
  refine lv_istore hx hb d_Model_makes_102 hl (Nat.le_of_ble_eq_true rfl) rfl (fun ls hl => ?_)
  have hl : lv_has ls 10 [(9, .int x102_22), (8, .int x95_21), (7, .int x87_19), (6, .int x79_17), (4, .int x51_8), (3, .int x26_4), (0, .ref (sm_a v 68))] := hl
  have hl : lv_has ls 10 [(9, .int x102_22), (8, .int x95_21), (7, .int x87_19), (6, .int x79_17), (3, .int x26_4), (0, .ref (sm_a v 68))] := lv_sub hl [0, 1, 2, 3, 5, 6] rfl
  refine lv_iload hx hb d_Model_makes_104 (lv_at hl 1 rfl) ?_
  refine lv_iconst (v := 2) hx hb d_Model_makes_106 (by decide) ?_
  refine lv_icmp_le hx hb d_Model_makes_107 rfl (fun h107_23 => ?_) (fun h107_23 => ?_)
  · have hf := sm_t h107_23 hf
    exact jw_Model_makes_142 hC hr hlk hK M x102_22 x95_21 x87_19 x79_17 x26_4 hG hl hf
  · have hf := sm_f h107_23 hf
    refine lv_iload hx hb d_Model_makes_110 (lv_at hl 0 rfl) ?_
    refine lv_iconst (v := 2) hx hb d_Model_makes_112 (by decide) ?_
    refine lv_irem hx hb d_Model_makes_113 (by decide) ?_
    refine lv_if_ne hx hb d_Model_makes_114 rfl (fun h114_50 => ?_) (fun h114_50 => ?_)
    · have hf := sm_f h114_50 hf
      refine lv_iconst (v := 0) hx hb d_Model_makes_140 (by decide) ?_
      obtain ⟨rfl, rfl⟩ := Prod.mk.inj (Option.some.inj hf)
      exact sm_zret hC hr rfl hlk hG d_Model_makes_141
    · have hf := sm_t h114_50 hf
      refine lv_iload hx hb d_Model_makes_117 (lv_at hl 0 rfl) ?_
      refine lv_iconst (v := 2) hx hb d_Model_makes_119 (by decide) ?_
      refine lv_idiv hx hb d_Model_makes_120 (by decide) ?_
      refine lv_iload hx hb d_Model_makes_121 (lv_at hl 1 rfl) ?_
      refine lv_iconst (v := 3) hx hb d_Model_makes_123 (by decide) ?_
      refine lv_icmp_ne hx hb d_Model_makes_124 rfl (fun h124_51 => ?_) (fun h124_51 => ?_)
      · have hf := sm_f h124_51 hf
        refine lv_bipush (v := 22) hx hb d_Model_makes_132 (by decide) ?_
        exact jw_Model_makes_134 hC hr hlk hK M x102_22 x95_21 x87_19 x79_17 x26_4 (22 : Int32) (x102_22 / (2 : Int32)) hG hl hf
      · have hf := sm_t h124_51 hf
        refine lv_bipush (v := 12) hx hb d_Model_makes_127 (by decide) ?_
        refine lv_goto hx hb d_Model_makes_129 rfl ?_
        exact jw_Model_makes_134 hC hr hlk hK M x102_22 x95_21 x87_19 x79_17 x26_4 (12 : Int32) (x102_22 / (2 : Int32)) hG hl hf
abbrev w_Model_end : List Cond := Cond.code y_Model_end b_Model_end 4 (some .int) :: sm_AW
abbrev rm_Model_end : Room := { frames := 0, cells := 0, slots := 0, locals := 0 }
def g_Model_end_4 (M : sm_M) (w1 : Int32) (rec4 : Int32 → Int32 → Option (Int32)) (w3 : Int32) (w2 : Int32) : Option (Int32) :=
(if (4 : Int32) ≤ w3 then
(some w2)
else
sm_gd (((2 : Int32) * w3) + w1) 8 (
sm_nm (w2 + (M 70 (Int32.toNatClampNeg (((2 : Int32) * w3) + w1)))) fun x21_3 =>
rec4 (w3 + (1 : Int32)) x21_3))
def f_Model_end (M : sm_M) (a0 : Int32) : Option (Int32) :=
sm_lp2 (g_Model_end_4 M a0) 1100 (0 : Int32) (0 : Int32)
set_option maxHeartbeats 4000000 in
set_option maxRecDepth 100000 in
theorem lw_Model_end_4 {p : Program} {l : Launch} {e : Env} {s : State} {m : MethodId} {args : Array Value} {below : List Frame} {meth : Method} {c : Code} {v : sm_V} {o : sm_O} {r : Int32} (hC : CallFix p m c b_Model_end 4 s args w_Model_end R_Model) (hr : meth.sig.returnType = some .int) (hlk : meth.locks = false) (hK : sm_K v s) (M : sm_M) (w1 : Int32) (hG : sm_G v M o s s.heap []) :
    ∀ (n : Nat) (w3 : Int32) (w2 : Int32) (ls : Array Slot), lv_has ls 4 [(3, .int w3), (2, .int w2), (0, .ref (sm_a v 68)), (1, .int w1)] → sm_lp2 (g_Model_end_4 M w1) n w3 w2 = some r → W p l e rm_Model_end s m args below meth c s.heap [] 0 0 (MQ below (sm_Qi0 r) args s 0 0 (fun _ => False)) (F0 m 4 ls []) := by
  have hx := hC.1
  have hb := hC.2.1
  intro n
  induction n with
  | zero =>
    intro w3 w2 ls hl hf
    cases hf
  | succ n ih =>
    intro w3 w2 ls hl hf
    have hf : g_Model_end_4 M w1 (sm_lp2 (g_Model_end_4 M w1) n) w3 w2 = some r := hf
    unfold g_Model_end_4 at hf
    refine lv_iload_n hx hb d_Model_end_4 rfl (lv_at hl 0 rfl) ?_
    refine lv_iconst (v := 4) hx hb d_Model_end_5 (by decide) ?_
    refine lv_icmp_ge hx hb d_Model_end_6 rfl (fun h6_1 => ?_) (fun h6_1 => ?_)
    · have hf := sm_t h6_1 hf
      refine lv_iload_n hx hb d_Model_end_28 rfl (lv_at hl 1 rfl) ?_
      obtain rfl := Option.some.inj hf
      exact sm_iret0 hC hr hlk d_Model_end_29
    · have hf := sm_f h6_1 hf
      refine lv_iload_n hx hb d_Model_end_9 rfl (lv_at hl 1 rfl) ?_
      refine lv_aload_n hx hb d_Model_end_10 rfl (lv_at hl 2 rfl) ?_
      refine gf_Model_13 hC hK hG d_Model_end_11 ?_
      refine lv_iconst (v := 2) hx hb d_Model_end_14 (by decide) ?_
      refine lv_iload_n hx hb d_Model_end_15 rfl (lv_at hl 0 rfl) ?_
      refine lv_imul hx hb d_Model_end_16 ?_
      refine lv_iload_n hx hb d_Model_end_17 rfl (lv_at hl 3 rfl) ?_
      refine lv_iadd hx hb d_Model_end_18 ?_
      obtain ⟨h19_2, hf⟩ := sm_of_gd hf
      refine sm_iald hC hK hG (by decide) rfl h19_2 d_Model_end_19 ?_
      refine lv_iadd hx hb d_Model_end_20 ?_
      refine lv_topi (fun x21_3 ex21_3 => ?_)
      have hf := sm_of ex21_3 hf
      refine lv_istore_n hx hb d_Model_end_21 rfl hl (Nat.le_of_ble_eq_true rfl) rfl (fun ls hl => ?_)
      have hl : lv_has ls 4 [(2, .int x21_3), (3, .int w3), (0, .ref (sm_a v 68)), (1, .int w1)] := hl
      refine lv_iinc (v := w3 + (1 : Int32)) (k := 1) hx hb d_Model_end_22 hl rfl rfl (Nat.le_of_ble_eq_true rfl) rfl (fun ls hl => ?_)
      have hl : lv_has ls 4 [(3, .int (w3 + (1 : Int32))), (2, .int x21_3), (0, .ref (sm_a v 68)), (1, .int w1)] := hl
      refine lv_goto hx hb d_Model_end_25 rfl ?_
      exact ih _ _ ls hl hf
set_option maxHeartbeats 4000000 in
set_option maxRecDepth 100000 in
theorem c_Model_end {l : Launch} {v : sm_V} {o : sm_O} {M : sm_M} {a0 : Int32} {r : Int32} (hf : f_Model_end M a0 = some r) : sm_Ri l y_Model_end w_Model_end rm_Model_end v [.ref (sm_a v 68), .int a0] M o r  := by
  refine sm_met (cc := b_Model_end) (nL := 4) (ret := some .int) (plainFor_of_name (by decide)) rfl (Nat.le_of_ble_eq_true rfl) (fun p e s m args below meth c hC hr hlk hK hG ls hl => ?_)
  have hx := hC.1
  have hb := hC.2.1
  have hl : lv_has ls 4 [(0, .ref (sm_a v 68)), (1, .int a0)] := hl
  unfold f_Model_end at hf
  refine lv_iconst (v := 0) hx hb d_Model_end_0 (by decide) ?_
  refine lv_istore_n hx hb d_Model_end_1 rfl hl (Nat.le_of_ble_eq_true rfl) rfl (fun ls hl => ?_)
  have hl : lv_has ls 4 [(2, .int (0 : Int32)), (0, .ref (sm_a v 68)), (1, .int a0)] := hl
  refine lv_iconst (v := 0) hx hb d_Model_end_2 (by decide) ?_
  refine lv_istore_n hx hb d_Model_end_3 rfl hl (Nat.le_of_ble_eq_true rfl) rfl (fun ls hl => ?_)
  have hl : lv_has ls 4 [(3, .int (0 : Int32)), (2, .int (0 : Int32)), (0, .ref (sm_a v 68)), (1, .int a0)] := hl
  exact lw_Model_end_4 hC hr hlk hK M a0 hG 1100 _ _ ls hl hf
abbrev w_Model_begins : List Cond := Cond.code y_Model_begins b_Model_begins 5 (none) :: sm_AW
abbrev rm_Model_begins : Room := { frames := 0, cells := 0, slots := 0, locals := 0 }
def g_Model_begins_80 (rec80 : sm_M → Int32 → Option (sm_M)) (M : sm_M) (w3 : Int32) : Option (sm_M) :=
(if (192 : Int32) ≤ w3 then
(some M)
else
sm_gd w3 192 (
sm_gd w3 192 (
sm_nm (sm_up M 82 (Int32.toNatClampNeg w3) (M 69 (Int32.toNatClampNeg w3))) fun M98_5 =>
rec80 M98_5 (w3 + (1 : Int32)))))
def g_Model_begins_32 (w3 : Int32) (rec4 : sm_M → Int32 → Int32 → Option (sm_M)) (rec32 : sm_M → Int32 → Int32 → Option (sm_M)) (M : sm_M) (w4 : Int32) (w2 : Int32) : Option (sm_M) :=
(if (4 : Int32) ≤ w4 then
rec4 M (w3 + (1 : Int32)) w2
else
sm_gd (((2 : Int32) * w4) + w3) 8 (
sm_nm (sm_up M 83 (Int32.toNatClampNeg (((2 : Int32) * w4) + w3)) w2) fun M49_9 =>
sm_gd (((2 : Int32) * w4) + w3) 8 (
sm_nm (w2 + ((4 : Int32) * (M49_9 70 (Int32.toNatClampNeg (((2 : Int32) * w4) + w3))))) fun x65_11 =>
rec32 M49_9 (w4 + (1 : Int32)) x65_11)))
def j_Model_begins_28 (M : sm_M) (w3 : Int32) (z0 : Int32) (rec4 : sm_M → Int32 → Int32 → Option (sm_M)) : Option (sm_M) :=
sm_lp3 (g_Model_begins_32 w3 rec4) 1100 M (0 : Int32) z0
def g_Model_begins_4 (rec4 : sm_M → Int32 → Int32 → Option (sm_M)) (M : sm_M) (w3 : Int32) (w2 : Int32) : Option (sm_M) :=
(if (2 : Int32) ≤ w3 then
sm_lp2 (g_Model_begins_80) 1100 M (0 : Int32)
else
(if w3 = (1 : Int32) then
j_Model_begins_28 M w3 (((w2 + (63 : Int32)) / (64 : Int32)) * (64 : Int32)) rec4
else
j_Model_begins_28 M w3 w2 rec4))
def f_Model_begins (M : sm_M) (a0 : Int32) : Option (sm_M) :=
sm_lp3 (g_Model_begins_4) 1100 M (0 : Int32) a0
set_option maxHeartbeats 4000000 in
set_option maxRecDepth 100000 in
theorem lw_Model_begins_80 {p : Program} {l : Launch} {e : Env} {s : State} {m : MethodId} {args : Array Value} {below : List Frame} {meth : Method} {c : Code} {v : sm_V} {o : sm_O} {M' : sm_M} (hC : CallFix p m c b_Model_begins 5 s args w_Model_begins R_Model) (hr : meth.sig.returnType = none) (hlk : meth.locks = false) (hK : sm_K v s) :
    ∀ (n : Nat) (M : sm_M) (w3 : Int32) (H : Heap) (locs : List Loc) (ls : Array Slot), sm_G v M o s H locs → lv_has ls 5 [(3, .int w3), (0, .ref (sm_a v 68))] → sm_lp2 (g_Model_begins_80) n M w3 = some M' → W p l e rm_Model_begins s m args below meth c H locs 0 0 (MQ below (sm_Qv v M' o) args s 0 0 (sm_A v)) (F0 m 80 ls []) := by
  have hx := hC.1
  have hb := hC.2.1
  intro n
  induction n with
  | zero =>
    intro M w3 H locs ls hG hl hf
    cases hf
  | succ n ih =>
    intro M w3 H locs ls hG hl hf
    have hf : g_Model_begins_80 (sm_lp2 (g_Model_begins_80) n) M w3 = some M' := hf
    unfold g_Model_begins_80 at hf
    refine lv_iload_n hx hb d_Model_begins_80 rfl (lv_at hl 0 rfl) ?_
    refine lv_sipush (v := 192) hx hb d_Model_begins_81 (by decide) ?_
    refine lv_icmp_ge hx hb d_Model_begins_84 rfl (fun h84_2 => ?_) (fun h84_2 => ?_)
    · have hf := sm_t h84_2 hf
      obtain rfl := Option.some.inj hf
      exact sm_vret hC hr hlk hG d_Model_begins_105
    · have hf := sm_f h84_2 hf
      refine lv_aload_n hx hb d_Model_begins_87 rfl (lv_at hl 1 rfl) ?_
      refine gf_Model_50 hC hK hG d_Model_begins_88 ?_
      refine lv_iload_n hx hb d_Model_begins_91 rfl (lv_at hl 0 rfl) ?_
      refine lv_aload_n hx hb d_Model_begins_92 rfl (lv_at hl 1 rfl) ?_
      refine gf_Model_7 hC hK hG d_Model_begins_93 ?_
      refine lv_iload_n hx hb d_Model_begins_96 rfl (lv_at hl 0 rfl) ?_
      obtain ⟨h97_3, hf⟩ := sm_of_gd hf
      refine sm_iald hC hK hG (by decide) rfl h97_3 d_Model_begins_97 ?_
      obtain ⟨h98_4, hf⟩ := sm_of_gd hf
      refine sm_iast hC hK hG (by decide) rfl h98_4 d_Model_begins_98 (fun M98_5 H locs eM98_5 hG => ?_)
      have hf := sm_of eM98_5 hf
      refine lv_iinc (v := w3 + (1 : Int32)) (k := 0) hx hb d_Model_begins_99 hl rfl rfl (Nat.le_of_ble_eq_true rfl) rfl (fun ls hl => ?_)
      have hl : lv_has ls 5 [(3, .int (w3 + (1 : Int32))), (0, .ref (sm_a v 68))] := hl
      refine lv_goto hx hb d_Model_begins_102 rfl ?_
      exact ih _ _ _ _ ls hG hl hf
set_option maxHeartbeats 4000000 in
set_option maxRecDepth 100000 in
theorem lw_Model_begins_32 {p : Program} {l : Launch} {e : Env} {s : State} {m : MethodId} {args : Array Value} {below : List Frame} {meth : Method} {c : Code} {v : sm_V} {o : sm_O} {M' : sm_M} (hC : CallFix p m c b_Model_begins 5 s args w_Model_begins R_Model) (hr : meth.sig.returnType = none) (hlk : meth.locks = false) (hK : sm_K v s) (w3 : Int32) (rec4 : sm_M → Int32 → Int32 → Option (sm_M)) (hout4 : ∀ (M : sm_M) (w3 : Int32) (w2 : Int32) (H : Heap) (locs : List Loc) (ls : Array Slot), sm_G v M o s H locs → lv_has ls 5 [(3, .int w3), (2, .int w2), (0, .ref (sm_a v 68))] → rec4 M w3 w2 = some M' → W p l e rm_Model_begins s m args below meth c H locs 0 0 (MQ below (sm_Qv v M' o) args s 0 0 (sm_A v)) (F0 m 4 ls [])) :
    ∀ (n : Nat) (M : sm_M) (w4 : Int32) (w2 : Int32) (H : Heap) (locs : List Loc) (ls : Array Slot), sm_G v M o s H locs → lv_has ls 5 [(4, .int w4), (2, .int w2), (3, .int w3), (0, .ref (sm_a v 68))] → sm_lp3 (g_Model_begins_32 w3 rec4) n M w4 w2 = some M' → W p l e rm_Model_begins s m args below meth c H locs 0 0 (MQ below (sm_Qv v M' o) args s 0 0 (sm_A v)) (F0 m 32 ls []) := by
  have hx := hC.1
  have hb := hC.2.1
  intro n
  induction n with
  | zero =>
    intro M w4 w2 H locs ls hG hl hf
    cases hf
  | succ n ih =>
    intro M w4 w2 H locs ls hG hl hf
    have hf : g_Model_begins_32 w3 rec4 (sm_lp3 (g_Model_begins_32 w3 rec4) n) M w4 w2 = some M' := hf
    unfold g_Model_begins_32 at hf
    refine lv_iload hx hb d_Model_begins_32 (lv_at hl 0 rfl) ?_
    refine lv_iconst (v := 4) hx hb d_Model_begins_34 (by decide) ?_
    refine lv_icmp_ge hx hb d_Model_begins_35 rfl (fun h35_7 => ?_) (fun h35_7 => ?_)
    · have hf := sm_t h35_7 hf
      refine lv_iinc (v := w3 + (1 : Int32)) (k := 2) hx hb d_Model_begins_72 hl rfl rfl (Nat.le_of_ble_eq_true rfl) rfl (fun ls hl => ?_)
      have hl : lv_has ls 5 [(3, .int (w3 + (1 : Int32))), (4, .int w4), (2, .int w2), (0, .ref (sm_a v 68))] := hl
      refine lv_goto hx hb d_Model_begins_75 rfl ?_
      exact hout4 _ _ _ _ _ ls hG (lv_sub hl [0, 2, 3] rfl) hf
    · have hf := sm_f h35_7 hf
      refine lv_aload_n hx hb d_Model_begins_38 rfl (lv_at hl 3 rfl) ?_
      refine gf_Model_53 hC hK hG d_Model_begins_39 ?_
      refine lv_iconst (v := 2) hx hb d_Model_begins_42 (by decide) ?_
      refine lv_iload hx hb d_Model_begins_43 (lv_at hl 0 rfl) ?_
      refine lv_imul hx hb d_Model_begins_45 ?_
      refine lv_iload_n hx hb d_Model_begins_46 rfl (lv_at hl 2 rfl) ?_
      refine lv_iadd hx hb d_Model_begins_47 ?_
      refine lv_iload_n hx hb d_Model_begins_48 rfl (lv_at hl 1 rfl) ?_
      obtain ⟨h49_8, hf⟩ := sm_of_gd hf
      refine sm_iast hC hK hG (by decide) rfl h49_8 d_Model_begins_49 (fun M49_9 H locs eM49_9 hG => ?_)
      have hf := sm_of eM49_9 hf
      refine lv_iload_n hx hb d_Model_begins_50 rfl (lv_at hl 1 rfl) ?_
      refine lv_iconst (v := 4) hx hb d_Model_begins_51 (by decide) ?_
      refine lv_aload_n hx hb d_Model_begins_52 rfl (lv_at hl 3 rfl) ?_
      refine gf_Model_13 hC hK hG d_Model_begins_53 ?_
      refine lv_iconst (v := 2) hx hb d_Model_begins_56 (by decide) ?_
      refine lv_iload hx hb d_Model_begins_57 (lv_at hl 0 rfl) ?_
      refine lv_imul hx hb d_Model_begins_59 ?_
      refine lv_iload_n hx hb d_Model_begins_60 rfl (lv_at hl 2 rfl) ?_
      refine lv_iadd hx hb d_Model_begins_61 ?_
      obtain ⟨h62_10, hf⟩ := sm_of_gd hf
      refine sm_iald hC hK hG (by decide) rfl h62_10 d_Model_begins_62 ?_
      refine lv_imul hx hb d_Model_begins_63 ?_
      refine lv_iadd hx hb d_Model_begins_64 ?_
      refine lv_topi (fun x65_11 ex65_11 => ?_)
      have hf := sm_of ex65_11 hf
      refine lv_istore_n hx hb d_Model_begins_65 rfl hl (Nat.le_of_ble_eq_true rfl) rfl (fun ls hl => ?_)
      have hl : lv_has ls 5 [(2, .int x65_11), (4, .int w4), (3, .int w3), (0, .ref (sm_a v 68))] := hl
      refine lv_iinc (v := w4 + (1 : Int32)) (k := 1) hx hb d_Model_begins_66 hl rfl rfl (Nat.le_of_ble_eq_true rfl) rfl (fun ls hl => ?_)
      have hl : lv_has ls 5 [(4, .int (w4 + (1 : Int32))), (2, .int x65_11), (3, .int w3), (0, .ref (sm_a v 68))] := hl
      refine lv_goto hx hb d_Model_begins_69 rfl ?_
      exact ih _ _ _ _ _ ls hG hl hf
set_option maxHeartbeats 4000000 in
set_option maxRecDepth 100000 in
theorem jw_Model_begins_28 {p : Program} {l : Launch} {e : Env} {s : State} {m : MethodId} {args : Array Value} {below : List Frame} {meth : Method} {c : Code} {v : sm_V} {o : sm_O} {M' : sm_M} (hC : CallFix p m c b_Model_begins 5 s args w_Model_begins R_Model) (hr : meth.sig.returnType = none) (hlk : meth.locks = false) (hK : sm_K v s) (M : sm_M) (w3 : Int32) (z0 : Int32) (rec4 : sm_M → Int32 → Int32 → Option (sm_M)) (hout4 : ∀ (M : sm_M) (w3 : Int32) (w2 : Int32) (H : Heap) (locs : List Loc) (ls : Array Slot), sm_G v M o s H locs → lv_has ls 5 [(3, .int w3), (2, .int w2), (0, .ref (sm_a v 68))] → rec4 M w3 w2 = some M' → W p l e rm_Model_begins s m args below meth c H locs 0 0 (MQ below (sm_Qv v M' o) args s 0 0 (sm_A v)) (F0 m 4 ls [])) {H : Heap} {locs : List Loc} {ls : Array Slot} (hG : sm_G v M o s H locs) (hl : lv_has ls 5 [(3, .int w3), (0, .ref (sm_a v 68))]) (hf : j_Model_begins_28 M w3 z0 rec4 = some M') : W p l e rm_Model_begins s m args below meth c H locs 0 0 (MQ below (sm_Qv v M' o) args s 0 0 (sm_A v)) (F0 m 28 ls [.int z0]) := by
  have hx := hC.1
  have hb := hC.2.1
  unfold j_Model_begins_28 at hf
  refine lv_istore_n hx hb d_Model_begins_28 rfl hl (Nat.le_of_ble_eq_true rfl) rfl (fun ls hl => ?_)
  have hl : lv_has ls 5 [(2, .int z0), (3, .int w3), (0, .ref (sm_a v 68))] := hl
  refine lv_iconst (v := 0) hx hb d_Model_begins_29 (by decide) ?_
  refine lv_istore hx hb d_Model_begins_30 hl (Nat.le_of_ble_eq_true rfl) rfl (fun ls hl => ?_)
  have hl : lv_has ls 5 [(4, .int (0 : Int32)), (2, .int z0), (3, .int w3), (0, .ref (sm_a v 68))] := hl
  exact lw_Model_begins_32 hC hr hlk hK w3 _ hout4 1100 _ _ _ _ _ ls hG hl hf
set_option maxHeartbeats 4000000 in
set_option maxRecDepth 100000 in
theorem lw_Model_begins_4 {p : Program} {l : Launch} {e : Env} {s : State} {m : MethodId} {args : Array Value} {below : List Frame} {meth : Method} {c : Code} {v : sm_V} {o : sm_O} {M' : sm_M} (hC : CallFix p m c b_Model_begins 5 s args w_Model_begins R_Model) (hr : meth.sig.returnType = none) (hlk : meth.locks = false) (hK : sm_K v s) :
    ∀ (n : Nat) (M : sm_M) (w3 : Int32) (w2 : Int32) (H : Heap) (locs : List Loc) (ls : Array Slot), sm_G v M o s H locs → lv_has ls 5 [(3, .int w3), (2, .int w2), (0, .ref (sm_a v 68))] → sm_lp3 (g_Model_begins_4) n M w3 w2 = some M' → W p l e rm_Model_begins s m args below meth c H locs 0 0 (MQ below (sm_Qv v M' o) args s 0 0 (sm_A v)) (F0 m 4 ls []) := by
  have hx := hC.1
  have hb := hC.2.1
  intro n
  induction n with
  | zero =>
    intro M w3 w2 H locs ls hG hl hf
    cases hf
  | succ n ih =>
    intro M w3 w2 H locs ls hG hl hf
    have hf : g_Model_begins_4 (sm_lp3 (g_Model_begins_4) n) M w3 w2 = some M' := hf
    unfold g_Model_begins_4 at hf
    refine lv_iload_n hx hb d_Model_begins_4 rfl (lv_at hl 0 rfl) ?_
    refine lv_iconst (v := 2) hx hb d_Model_begins_5 (by decide) ?_
    refine lv_icmp_ge hx hb d_Model_begins_6 rfl (fun h6_1 => ?_) (fun h6_1 => ?_)
    · have hf := sm_t h6_1 hf
      refine lv_iconst (v := 0) hx hb d_Model_begins_78 (by decide) ?_
      refine lv_istore_n hx hb d_Model_begins_79 rfl hl (Nat.le_of_ble_eq_true rfl) rfl (fun ls hl => ?_)
      have hl : lv_has ls 5 [(3, .int (0 : Int32)), (2, .int w2), (0, .ref (sm_a v 68))] := hl
      have hl : lv_has ls 5 [(3, .int (0 : Int32)), (0, .ref (sm_a v 68))] := lv_sub hl [0, 2] rfl
      exact lw_Model_begins_80 hC hr hlk hK  1100 _ _ _ _ ls hG hl hf
    · have hf := sm_f h6_1 hf
      refine lv_iload_n hx hb d_Model_begins_9 rfl (lv_at hl 0 rfl) ?_
      refine lv_iconst (v := 1) hx hb d_Model_begins_10 (by decide) ?_
      refine lv_icmp_ne hx hb d_Model_begins_11 rfl (fun h11_6 => ?_) (fun h11_6 => ?_)
      · have hf := sm_f h11_6 hf
        refine lv_iload_n hx hb d_Model_begins_27 rfl (lv_at hl 1 rfl) ?_
        exact jw_Model_begins_28 hC hr hlk hK M w3 w2 _ ih hG (lv_sub hl [0, 2] rfl) hf
      · have hf := sm_t h11_6 hf
        refine lv_iload_n hx hb d_Model_begins_14 rfl (lv_at hl 1 rfl) ?_
        refine lv_bipush (v := 63) hx hb d_Model_begins_15 (by decide) ?_
        refine lv_iadd hx hb d_Model_begins_17 ?_
        refine lv_bipush (v := 64) hx hb d_Model_begins_18 (by decide) ?_
        refine lv_idiv hx hb d_Model_begins_20 (by decide) ?_
        refine lv_bipush (v := 64) hx hb d_Model_begins_21 (by decide) ?_
        refine lv_imul hx hb d_Model_begins_23 ?_
        refine lv_goto hx hb d_Model_begins_24 rfl ?_
        exact jw_Model_begins_28 hC hr hlk hK M w3 (((w2 + (63 : Int32)) / (64 : Int32)) * (64 : Int32)) _ ih hG (lv_sub hl [0, 2] rfl) hf
set_option maxHeartbeats 4000000 in
set_option maxRecDepth 100000 in
theorem c_Model_begins {l : Launch} {v : sm_V} {o : sm_O} {M : sm_M} {a0 : Int32} {M' : sm_M} (hf : f_Model_begins M a0 = some M') : sm_Cv l y_Model_begins w_Model_begins rm_Model_begins v [.ref (sm_a v 68), .int a0] M o M' := by
  refine sm_met (cc := b_Model_begins) (nL := 5) (ret := none) (plainFor_of_name (by decide)) rfl (Nat.le_of_ble_eq_true rfl) (fun p e s m args below meth c hC hr hlk hK hG ls hl => ?_)
  have hx := hC.1
  have hb := hC.2.1
  have hl : lv_has ls 5 [(0, .ref (sm_a v 68)), (1, .int a0)] := hl
  unfold f_Model_begins at hf
  refine lv_iload_n hx hb d_Model_begins_0 rfl (lv_at hl 1 rfl) ?_
  refine lv_istore_n hx hb d_Model_begins_1 rfl hl (Nat.le_of_ble_eq_true rfl) rfl (fun ls hl => ?_)
  have hl : lv_has ls 5 [(2, .int a0), (0, .ref (sm_a v 68)), (1, .int a0)] := hl
  have hl : lv_has ls 5 [(2, .int a0), (0, .ref (sm_a v 68))] := lv_sub hl [0, 1] rfl
  refine lv_iconst (v := 0) hx hb d_Model_begins_2 (by decide) ?_
  refine lv_istore_n hx hb d_Model_begins_3 rfl hl (Nat.le_of_ble_eq_true rfl) rfl (fun ls hl => ?_)
  have hl : lv_has ls 5 [(3, .int (0 : Int32)), (2, .int a0), (0, .ref (sm_a v 68))] := hl
  exact lw_Model_begins_4 hC hr hlk hK  1100 _ _ _ _ _ ls hG hl hf
