theorem ca_Reader_25 {p : Program} {l : Launch} {e : Env} {R : Room} {s : State} {m : MethodId} {args : Array Value} {below : List Frame} {meth : Method} {c : Code} {H : Heap} {locs : List Loc} {cells slots : Nat} {Q : State → Prop} {cc : ByteArray} {nL pc : Nat} {ls : Array Slot} {rest : List Value} {w0 : Cond} {v : sm_V} {M : sm_M} {o : sm_O} {x0 : Int32} {r : Int32} (hC : CallFix p m c cc nL s args (w0 :: sm_AW) R_Reader) (hK : sm_K v s) (hG : sm_G v M o s H locs) (hM : sm_Ri l y_Image_headerWord w_Image_headerWord rm_Image_headerWord v [.ref (sm_a v 62), .int x0] M o r) (hsz : ls.size = nL) (hR : rm_Image_headerWord.frames + 1 ≤ R.frames ∧ 8 + (2 + 11) + rm_Image_headerWord.locals ≤ R.locals) (hcs : cells + 0 ≤ R.cells ∧ slots + 0 ≤ R.slots) (hW : (rest.map fun v => v.category).sum ≤ 8) (hdg : decode cc pc = .ok (.invokevirtual 25, 3))
    (kk : W p l e R s m args below meth c H locs cells slots Q (F0 m (pc + 3) ls (.int r :: rest))) : W p l e R s m args below meth c H locs cells slots Q (F0 m pc ls (.int x0 :: .ref (sm_a v 62) :: rest)) :=
  sm_calli0 (va_runV (C := R_Image) (As := [.int x0]) (rest := rest) hC hM (cwV 1 hC.2.2.2.2 (sm_good (sm_inV aw_229 aw_230 aw_231 aw_5 aw_232)) rfl rfl rfl (by decide +kernel) hR) (sm_preV hK hG (by decide) rfl rfl) rfl rfl hsz rfl (lv_room hW) hdg hcs) kk
abbrev w_Reader_codeEnd : List Cond := Cond.code y_Reader_codeEnd b_Reader_codeEnd 1 (some .long) :: sm_AW
abbrev rm_Reader_codeEnd : Room := { frames := 2, cells := 0, slots := 0, locals := 42 }
def f_Reader_codeEnd (M : sm_M) : Option (Int64) :=
sm_b1 (f_Image_headerWord M (2 : Int32)) fun r2_2 =>
sm_b1 (f_Image_headerWord M (3 : Int32)) fun r8_5 =>
(some ((Int32.toInt64 r2_2) + (Int32.toInt64 r8_5)))
set_option maxHeartbeats 4000000 in
set_option maxRecDepth 100000 in
theorem c_Reader_codeEnd {l : Launch} {v : sm_V} {o : sm_O} {M : sm_M} {r : Int64} (hf : f_Reader_codeEnd M = some r) : sm_Rl l y_Reader_codeEnd w_Reader_codeEnd rm_Reader_codeEnd v [.ref (sm_a v 62)] M o r  := by
  refine sm_met (cc := b_Reader_codeEnd) (nL := 1) (ret := some .long) (plainFor_of_name (by decide)) rfl (Nat.le_of_ble_eq_true rfl) (fun p e s m args below meth c hC hr hlk hK hG ls hl => ?_)
  have hx := hC.1
  have hb := hC.2.1
  have hl : lv_has ls 1 [(0, .ref (sm_a v 62))] := hl
  unfold f_Reader_codeEnd at hf
  refine lv_aload_n hx hb d_Reader_codeEnd_0 rfl (lv_at hl 0 rfl) ?_
  refine lv_iconst (v := 2) hx hb d_Reader_codeEnd_1 (by decide) ?_
  obtain ⟨r2_2, hc2_1, hf⟩ := sm_of_b1 hf
  refine ca_Reader_25 hC hK hG (c_Image_headerWord hc2_1) hl.1 ⟨Nat.le_of_ble_eq_true rfl, Nat.le_of_ble_eq_true rfl⟩ ⟨Nat.zero_le _, Nat.zero_le _⟩ (Nat.le_of_ble_eq_true rfl) d_Reader_codeEnd_2 ?_
  refine lv_i2l hx hb d_Reader_codeEnd_5 rfl ?_
  refine lv_aload_n hx hb d_Reader_codeEnd_6 rfl (lv_at hl 0 rfl) ?_
  refine lv_iconst (v := 3) hx hb d_Reader_codeEnd_7 (by decide) ?_
  obtain ⟨r8_5, hc8_4, hf⟩ := sm_of_b1 hf
  refine ca_Reader_25 hC hK hG (c_Image_headerWord hc8_4) hl.1 ⟨Nat.le_of_ble_eq_true rfl, Nat.le_of_ble_eq_true rfl⟩ ⟨Nat.zero_le _, Nat.zero_le _⟩ (Nat.le_of_ble_eq_true rfl) d_Reader_codeEnd_8 ?_
  refine lv_i2l hx hb d_Reader_codeEnd_11 rfl ?_
  refine lv_ladd hx hb d_Reader_codeEnd_12 ?_
  obtain rfl := Option.some.inj hf
  exact sm_lret0 hC hr hlk d_Reader_codeEnd_13
abbrev w_Reader_isLength : List Cond := Cond.code y_Reader_isLength b_Reader_isLength 2 (some .boolean) :: sm_AW
abbrev rm_Reader_isLength : Room := { frames := 0, cells := 0, slots := 0, locals := 0 }
def f_Reader_isLength (a0 : Int32) (a1 : Int32) : Option (Int32) :=
(if a1 < 0 then
(some (0 : Int32))
else
(if (4096 : Int32) < a1 then
(some (0 : Int32))
else
(if (a1 - a1 / (4 : Int32) * (4 : Int32)) = 0 then
(if 0 < (lg_cmp (((Int32.toInt64 a0) + (Int32.toInt64 a1)) - (1 : Int64)) (2147483647 : Int64)) then
(some (0 : Int32))
else
(some (1 : Int32)))
else
(some (0 : Int32)))))
set_option maxHeartbeats 4000000 in
set_option maxRecDepth 100000 in
theorem c_Reader_isLength {l : Launch} {v : sm_V} {o : sm_O} {M : sm_M} {a0 : Int32} {a1 : Int32} {r : Int32} (hf : f_Reader_isLength a0 a1 = some r) : sm_Ri l y_Reader_isLength w_Reader_isLength rm_Reader_isLength v [.int a0, .int a1] M o r  := by
  refine sm_met (cc := b_Reader_isLength) (nL := 2) (ret := some .boolean) (plainFor_of_name (by decide)) rfl (Nat.le_of_ble_eq_true rfl) (fun p e s m args below meth c hC hr hlk hK hG ls hl => ?_)
  have hx := hC.1
  have hb := hC.2.1
  have hl : lv_has ls 2 [(0, .int a0), (1, .int a1)] := hl
  unfold f_Reader_isLength at hf
  refine lv_iload_n hx hb d_Reader_isLength_0 rfl (lv_at hl 1 rfl) ?_
  refine lv_if_lt hx hb d_Reader_isLength_1 rfl (fun h1_1 => ?_) (fun h1_1 => ?_)
  · have hf := sm_t h1_1 hf
    refine lv_iconst (v := 0) hx hb d_Reader_isLength_35 (by decide) ?_
    obtain rfl := Option.some.inj hf
    exact sm_zret0 hC hr rfl hlk d_Reader_isLength_36
  · have hf := sm_f h1_1 hf
    refine lv_iload_n hx hb d_Reader_isLength_4 rfl (lv_at hl 1 rfl) ?_
    refine lv_sipush (v := 4096) hx hb d_Reader_isLength_5 (by decide) ?_
    refine lv_icmp_gt hx hb d_Reader_isLength_8 rfl (fun h8_2 => ?_) (fun h8_2 => ?_)
    · have hf := sm_t h8_2 hf
      refine lv_iconst (v := 0) hx hb d_Reader_isLength_35 (by decide) ?_
      obtain rfl := Option.some.inj hf
      exact sm_zret0 hC hr rfl hlk d_Reader_isLength_36
    · have hf := sm_f h8_2 hf
      refine lv_iload_n hx hb d_Reader_isLength_11 rfl (lv_at hl 1 rfl) ?_
      refine lv_iconst (v := 4) hx hb d_Reader_isLength_12 (by decide) ?_
      refine lv_irem hx hb d_Reader_isLength_13 (by decide) ?_
      refine lv_if_ne hx hb d_Reader_isLength_14 rfl (fun h14_3 => ?_) (fun h14_3 => ?_)
      · have hf := sm_f h14_3 hf
        refine lv_iconst (v := 0) hx hb d_Reader_isLength_35 (by decide) ?_
        obtain rfl := Option.some.inj hf
        exact sm_zret0 hC hr rfl hlk d_Reader_isLength_36
      · have hf := sm_t h14_3 hf
        refine lv_iload_n hx hb d_Reader_isLength_17 rfl (lv_at hl 0 rfl) ?_
        refine lv_i2l hx hb d_Reader_isLength_18 rfl ?_
        refine lv_iload_n hx hb d_Reader_isLength_19 rfl (lv_at hl 1 rfl) ?_
        refine lv_i2l hx hb d_Reader_isLength_20 rfl ?_
        refine lv_ladd hx hb d_Reader_isLength_21 ?_
        refine lv_lconst (v := 1) hx hb d_Reader_isLength_22 (by decide) ?_
        refine lv_lsub hx hb d_Reader_isLength_23 ?_
        refine lv_ldc2 hx hb hC.2.2.2.1 (hC.2.2.2.2 _ (List.mem_cons_of_mem _ aw_244)) d_Reader_isLength_24 ?_
        refine W.lcmp hx hb d_Reader_isLength_27 ?_
        refine lv_if_gt hx hb d_Reader_isLength_28 rfl (fun h28_4 => ?_) (fun h28_4 => ?_)
        · have hf := sm_t h28_4 hf
          refine lv_iconst (v := 0) hx hb d_Reader_isLength_35 (by decide) ?_
          obtain rfl := Option.some.inj hf
          exact sm_zret0 hC hr rfl hlk d_Reader_isLength_36
        · have hf := sm_f h28_4 hf
          refine lv_iconst (v := 1) hx hb d_Reader_isLength_31 (by decide) ?_
          refine lv_goto hx hb d_Reader_isLength_32 rfl ?_
          obtain rfl := Option.some.inj hf
          exact sm_zret0 hC hr rfl hlk d_Reader_isLength_36
theorem ca_Reader_30 {p : Program} {l : Launch} {e : Env} {R : Room} {s : State} {m : MethodId} {args : Array Value} {below : List Frame} {meth : Method} {c : Code} {H : Heap} {locs : List Loc} {cells slots : Nat} {Q : State → Prop} {cc : ByteArray} {nL pc : Nat} {ls : Array Slot} {rest : List Value} {w0 : Cond} {v : sm_V} {M : sm_M} {o : sm_O} {r : Int64} (hC : CallFix p m c cc nL s args (w0 :: sm_AW) R_Reader) (hK : sm_K v s) (hG : sm_G v M o s H locs) (hM : sm_Rl l y_Reader_codeEnd w_Reader_codeEnd rm_Reader_codeEnd v [.ref (sm_a v 62)] M o r) (hsz : ls.size = nL) (hR : rm_Reader_codeEnd.frames + 1 ≤ R.frames ∧ 8 + (1 + 11) + rm_Reader_codeEnd.locals ≤ R.locals) (hcs : cells + 0 ≤ R.cells ∧ slots + 0 ≤ R.slots) (hW : (rest.map fun v => v.category).sum ≤ 8) (hdg : decode cc pc = .ok (.invokestatic 30, 3))
    (kk : W p l e R s m args below meth c H locs cells slots Q (F0 m (pc + 3) ls (.long r :: rest))) : W p l e R s m args below meth c H locs cells slots Q (F0 m pc ls (.ref (sm_a v 62) :: rest)) :=
  sm_calll0 (va_runS (As := [.ref (sm_a v 62)]) (rest := rest) hC hM (cwS 1 hC.2.2.2.2 (sm_good (sm_inS aw_238 aw_239 aw_16 aw_240)) rfl rfl rfl (by decide +kernel) hR) (sm_preS hK hG) rfl rfl hsz rfl (lv_room hW) hdg hcs) kk
theorem ca_Reader_34 {p : Program} {l : Launch} {e : Env} {R : Room} {s : State} {m : MethodId} {args : Array Value} {below : List Frame} {meth : Method} {c : Code} {H : Heap} {locs : List Loc} {cells slots : Nat} {Q : State → Prop} {cc : ByteArray} {nL pc : Nat} {ls : Array Slot} {rest : List Value} {w0 : Cond} {v : sm_V} {M : sm_M} {o : sm_O} {x0 : Int32} {x1 : Int32} {r : Int32} (hC : CallFix p m c cc nL s args (w0 :: sm_AW) R_Reader) (hK : sm_K v s) (hG : sm_G v M o s H locs) (hM : sm_Ri l y_Reader_isLength w_Reader_isLength rm_Reader_isLength v [.int x0, .int x1] M o r) (hsz : ls.size = nL) (hR : rm_Reader_isLength.frames + 1 ≤ R.frames ∧ 8 + (2 + 11) + rm_Reader_isLength.locals ≤ R.locals) (hcs : cells + 0 ≤ R.cells ∧ slots + 0 ≤ R.slots) (hW : (rest.map fun v => v.category).sum ≤ 8) (hdg : decode cc pc = .ok (.invokestatic 34, 3))
    (kk : W p l e R s m args below meth c H locs cells slots Q (F0 m (pc + 3) ls (.int r :: rest))) : W p l e R s m args below meth c H locs cells slots Q (F0 m pc ls (.int x1 :: .int x0 :: rest)) :=
  sm_calli0 (va_runS (As := [.int x0, .int x1]) (rest := rest) hC hM (cwS 2 hC.2.2.2.2 (sm_good (sm_inS aw_241 aw_242 aw_16 aw_243)) rfl rfl rfl (by decide +kernel) hR) (sm_preS hK hG) rfl rfl hsz rfl (lv_room hW) hdg hcs) kk
theorem ca_Reader_38 {p : Program} {l : Launch} {e : Env} {R : Room} {s : State} {m : MethodId} {args : Array Value} {below : List Frame} {meth : Method} {c : Code} {H : Heap} {locs : List Loc} {cells slots : Nat} {Q : State → Prop} {cc : ByteArray} {nL pc : Nat} {ls : Array Slot} {rest : List Value} {w0 : Cond} {v : sm_V} {M : sm_M} {o : sm_O} {r : Int32} (hC : CallFix p m c cc nL s args (w0 :: sm_AW) R_Reader) (hK : sm_K v s) (hG : sm_G v M o s H locs) (hM : sm_Ri l y_Image_headerSum w_Image_headerSum rm_Image_headerSum v [.ref (sm_a v 62)] M o r) (hsz : ls.size = nL) (hR : rm_Image_headerSum.frames + 1 ≤ R.frames ∧ 8 + (3 + 11) + rm_Image_headerSum.locals ≤ R.locals) (hcs : cells + 0 ≤ R.cells ∧ slots + 0 ≤ R.slots) (hW : (rest.map fun v => v.category).sum ≤ 8) (hdg : decode cc pc = .ok (.invokevirtual 38, 3))
    (kk : W p l e R s m args below meth c H locs cells slots Q (F0 m (pc + 3) ls (.int r :: rest))) : W p l e R s m args below meth c H locs cells slots Q (F0 m pc ls (.ref (sm_a v 62) :: rest)) :=
  sm_calli0 (va_runV (C := R_Image) (As := []) (rest := rest) hC hM (cwV 0 hC.2.2.2.2 (sm_good (sm_inV aw_245 aw_246 aw_247 aw_5 aw_248)) rfl rfl rfl (by decide +kernel) hR) (sm_preV hK hG (by decide) rfl rfl) rfl rfl hsz rfl (lv_room hW) hdg hcs) kk
abbrev w_Reader_isAsItMust : List Cond := Cond.code y_Reader_isAsItMust b_Reader_isAsItMust 3 (some .boolean) :: sm_AW
abbrev rm_Reader_isAsItMust : Room := { frames := 3, cells := 0, slots := 0, locals := 64 }
def f_Reader_isAsItMust (M : sm_M) (a1 : Int32) : Option (Int32) :=
sm_b1 (f_Image_headerWord M a1) fun r2_2 =>
(if a1 = 0 then
(if r2_2 = (1263422796 : Int32) then
(some (1 : Int32))
else
(some (0 : Int32)))
else
(if a1 = 1 then
(if (r2_2 - r2_2 / (4 : Int32) * (4 : Int32)) = 0 then
sm_b1 (f_Image_headerWord M (2 : Int32)) fun r73_9 =>
(if r2_2 < r73_9 then
(some (0 : Int32))
else
sm_b1 (f_Reader_codeEnd M) fun r82_13 =>
(if 0 ≤ (lg_cmp (Int32.toInt64 r2_2) r82_13) then
(some (0 : Int32))
else
(some (1 : Int32))))
else
(some (0 : Int32)))
else
(if a1 = 2 then
(if r2_2 < 0 then
(some (0 : Int32))
else
(if (r2_2 - r2_2 / (4 : Int32) * (4 : Int32)) = 0 then
(some (1 : Int32))
else
(some (0 : Int32))))
else
(if a1 = 3 then
(if r2_2 < (4 : Int32) then
(some (0 : Int32))
else
sm_b1 (f_Image_headerWord M (2 : Int32)) fun r118_22 =>
sm_b1 (f_Reader_isLength r118_22 r2_2) fun r122_25 =>
(if r122_25 = 0 then
(some (0 : Int32))
else
(some (1 : Int32))))
else
(if a1 = 4 then
(if r2_2 = (36 : Int32) then
(some (1 : Int32))
else
(some (0 : Int32)))
else
(if a1 = 5 then
(if (r2_2 - r2_2 / (64 : Int32) * (64 : Int32)) = 0 then
sm_b1 (f_Reader_codeEnd M) fun r156_33 =>
(if (lg_cmp (Int32.toInt64 r2_2) r156_33) < 0 then
(some (0 : Int32))
else
(some (1 : Int32)))
else
(some (0 : Int32)))
else
(if a1 = 6 then
sm_b1 (f_Image_headerWord M (5 : Int32)) fun r171_38 =>
sm_b1 (f_Reader_isLength r171_38 r2_2) fun r175_41 =>
sm_bo r175_41 ((some r175_41))
else
(if a1 = 7 then
sm_b1 (f_Image_headerWord M (3 : Int32)) fun r184_46 =>
(if r2_2 = ((36 : Int32) + r184_46) then
(some (1 : Int32))
else
(some (0 : Int32)))
else
sm_b1 (f_Image_headerSum M) fun r199_50 =>
(if r2_2 = r199_50 then
(some (1 : Int32))
else
(some (0 : Int32)))))))))))
set_option maxHeartbeats 4000000 in
set_option maxRecDepth 100000 in
theorem c_Reader_isAsItMust {l : Launch} {v : sm_V} {o : sm_O} {M : sm_M} {a1 : Int32} {r : Int32} (hf : f_Reader_isAsItMust M a1 = some r) : sm_Ri l y_Reader_isAsItMust w_Reader_isAsItMust rm_Reader_isAsItMust v [.ref (sm_a v 62), .int a1] M o r  := by
  refine sm_met (cc := b_Reader_isAsItMust) (nL := 3) (ret := some .boolean) (plainFor_of_name (by decide)) rfl (Nat.le_of_ble_eq_true rfl) (fun p e s m args below meth c hC hr hlk hK hG ls hl => ?_)
  have hx := hC.1
  have hb := hC.2.1
  have hl : lv_has ls 3 [(0, .ref (sm_a v 62)), (1, .int a1)] := hl
  unfold f_Reader_isAsItMust at hf
  refine lv_aload_n hx hb d_Reader_isAsItMust_0 rfl (lv_at hl 0 rfl) ?_
  refine lv_iload_n hx hb d_Reader_isAsItMust_1 rfl (lv_at hl 1 rfl) ?_
  obtain ⟨r2_2, hc2_1, hf⟩ := sm_of_b1 hf
  refine ca_Reader_25 hC hK hG (c_Image_headerWord hc2_1) hl.1 ⟨Nat.le_of_ble_eq_true rfl, Nat.le_of_ble_eq_true rfl⟩ ⟨Nat.zero_le _, Nat.zero_le _⟩ (Nat.le_of_ble_eq_true rfl) d_Reader_isAsItMust_2 ?_
  refine lv_istore_n hx hb d_Reader_isAsItMust_5 rfl hl (Nat.le_of_ble_eq_true rfl) rfl (fun ls hl => ?_)
  have hl : lv_has ls 3 [(2, .int r2_2), (0, .ref (sm_a v 62)), (1, .int a1)] := hl
  refine lv_iload_n hx hb d_Reader_isAsItMust_6 rfl (lv_at hl 2 rfl) ?_
  by_cases h7_4 : a1 = 0
  · have hf := sm_t h7_4 hf
    refine lv_tableIn (tgt := 52) hx hb d_Reader_isAsItMust_7 (by rw [h7_4]; decide) (by rw [h7_4]; decide) (by rw [h7_4]; rfl) rfl ?_
    refine lv_iload_n hx hb d_Reader_isAsItMust_52 rfl (lv_at hl 0 rfl) ?_
    refine lv_ldc hx hb hC.2.2.2.1 (hC.2.2.2.2 _ (List.mem_cons_of_mem _ aw_237)) d_Reader_isAsItMust_53 ?_
    refine lv_icmp_ne hx hb d_Reader_isAsItMust_55 rfl (fun h55_5 => ?_) (fun h55_5 => ?_)
    · have hf := sm_f h55_5 hf
      refine lv_iconst (v := 0) hx hb d_Reader_isAsItMust_62 (by decide) ?_
      obtain rfl := Option.some.inj hf
      exact sm_zret0 hC hr rfl hlk d_Reader_isAsItMust_63
    · have hf := sm_t h55_5 hf
      refine lv_iconst (v := 1) hx hb d_Reader_isAsItMust_58 (by decide) ?_
      refine lv_goto hx hb d_Reader_isAsItMust_59 rfl ?_
      obtain rfl := Option.some.inj hf
      exact sm_zret0 hC hr rfl hlk d_Reader_isAsItMust_63
  have hf := sm_f h7_4 hf
  by_cases h7_6 : a1 = 1
  · have hf := sm_t h7_6 hf
    refine lv_tableIn (tgt := 64) hx hb d_Reader_isAsItMust_7 (by rw [h7_6]; decide) (by rw [h7_6]; decide) (by rw [h7_6]; rfl) rfl ?_
    refine lv_iload_n hx hb d_Reader_isAsItMust_64 rfl (lv_at hl 0 rfl) ?_
    refine lv_iconst (v := 4) hx hb d_Reader_isAsItMust_65 (by decide) ?_
    refine lv_irem hx hb d_Reader_isAsItMust_66 (by decide) ?_
    refine lv_if_ne hx hb d_Reader_isAsItMust_67 rfl (fun h67_7 => ?_) (fun h67_7 => ?_)
    · have hf := sm_f h67_7 hf
      refine lv_iconst (v := 0) hx hb d_Reader_isAsItMust_93 (by decide) ?_
      obtain rfl := Option.some.inj hf
      exact sm_zret0 hC hr rfl hlk d_Reader_isAsItMust_94
    · have hf := sm_t h67_7 hf
      refine lv_iload_n hx hb d_Reader_isAsItMust_70 rfl (lv_at hl 0 rfl) ?_
      refine lv_aload_n hx hb d_Reader_isAsItMust_71 rfl (lv_at hl 1 rfl) ?_
      refine lv_iconst (v := 2) hx hb d_Reader_isAsItMust_72 (by decide) ?_
      obtain ⟨r73_9, hc73_8, hf⟩ := sm_of_b1 hf
      refine ca_Reader_25 hC hK hG (c_Image_headerWord hc73_8) hl.1 ⟨Nat.le_of_ble_eq_true rfl, Nat.le_of_ble_eq_true rfl⟩ ⟨Nat.zero_le _, Nat.zero_le _⟩ (Nat.le_of_ble_eq_true rfl) d_Reader_isAsItMust_73 ?_
      refine lv_icmp_lt hx hb d_Reader_isAsItMust_76 rfl (fun h76_11 => ?_) (fun h76_11 => ?_)
      · have hf := sm_t h76_11 hf
        refine lv_iconst (v := 0) hx hb d_Reader_isAsItMust_93 (by decide) ?_
        obtain rfl := Option.some.inj hf
        exact sm_zret0 hC hr rfl hlk d_Reader_isAsItMust_94
      · have hf := sm_f h76_11 hf
        refine lv_iload_n hx hb d_Reader_isAsItMust_79 rfl (lv_at hl 0 rfl) ?_
        refine lv_i2l hx hb d_Reader_isAsItMust_80 rfl ?_
        refine lv_aload_n hx hb d_Reader_isAsItMust_81 rfl (lv_at hl 1 rfl) ?_
        obtain ⟨r82_13, hc82_12, hf⟩ := sm_of_b1 hf
        refine ca_Reader_30 hC hK hG (c_Reader_codeEnd hc82_12) hl.1 ⟨Nat.le_of_ble_eq_true rfl, Nat.le_of_ble_eq_true rfl⟩ ⟨Nat.zero_le _, Nat.zero_le _⟩ (Nat.le_of_ble_eq_true rfl) d_Reader_isAsItMust_82 ?_
        refine W.lcmp hx hb d_Reader_isAsItMust_85 ?_
        refine lv_if_ge hx hb d_Reader_isAsItMust_86 rfl (fun h86_15 => ?_) (fun h86_15 => ?_)
        · have hf := sm_t h86_15 hf
          refine lv_iconst (v := 0) hx hb d_Reader_isAsItMust_93 (by decide) ?_
          obtain rfl := Option.some.inj hf
          exact sm_zret0 hC hr rfl hlk d_Reader_isAsItMust_94
        · have hf := sm_f h86_15 hf
          refine lv_iconst (v := 1) hx hb d_Reader_isAsItMust_89 (by decide) ?_
          refine lv_goto hx hb d_Reader_isAsItMust_90 rfl ?_
          obtain rfl := Option.some.inj hf
          exact sm_zret0 hC hr rfl hlk d_Reader_isAsItMust_94
  have hf := sm_f h7_6 hf
  by_cases h7_16 : a1 = 2
  · have hf := sm_t h7_16 hf
    refine lv_tableIn (tgt := 95) hx hb d_Reader_isAsItMust_7 (by rw [h7_16]; decide) (by rw [h7_16]; decide) (by rw [h7_16]; rfl) rfl ?_
    refine lv_iload_n hx hb d_Reader_isAsItMust_95 rfl (lv_at hl 0 rfl) ?_
    refine lv_if_lt hx hb d_Reader_isAsItMust_96 rfl (fun h96_17 => ?_) (fun h96_17 => ?_)
    · have hf := sm_t h96_17 hf
      refine lv_iconst (v := 0) hx hb d_Reader_isAsItMust_109 (by decide) ?_
      obtain rfl := Option.some.inj hf
      exact sm_zret0 hC hr rfl hlk d_Reader_isAsItMust_110
    · have hf := sm_f h96_17 hf
      refine lv_iload_n hx hb d_Reader_isAsItMust_99 rfl (lv_at hl 0 rfl) ?_
      refine lv_iconst (v := 4) hx hb d_Reader_isAsItMust_100 (by decide) ?_
      refine lv_irem hx hb d_Reader_isAsItMust_101 (by decide) ?_
      refine lv_if_ne hx hb d_Reader_isAsItMust_102 rfl (fun h102_18 => ?_) (fun h102_18 => ?_)
      · have hf := sm_f h102_18 hf
        refine lv_iconst (v := 0) hx hb d_Reader_isAsItMust_109 (by decide) ?_
        obtain rfl := Option.some.inj hf
        exact sm_zret0 hC hr rfl hlk d_Reader_isAsItMust_110
      · have hf := sm_t h102_18 hf
        refine lv_iconst (v := 1) hx hb d_Reader_isAsItMust_105 (by decide) ?_
        refine lv_goto hx hb d_Reader_isAsItMust_106 rfl ?_
        obtain rfl := Option.some.inj hf
        exact sm_zret0 hC hr rfl hlk d_Reader_isAsItMust_110
  have hf := sm_f h7_16 hf
  by_cases h7_19 : a1 = 3
  · have hf := sm_t h7_19 hf
    refine lv_tableIn (tgt := 111) hx hb d_Reader_isAsItMust_7 (by rw [h7_19]; decide) (by rw [h7_19]; decide) (by rw [h7_19]; rfl) rfl ?_
    refine lv_iload_n hx hb d_Reader_isAsItMust_111 rfl (lv_at hl 0 rfl) ?_
    refine lv_iconst (v := 4) hx hb d_Reader_isAsItMust_112 (by decide) ?_
    refine lv_icmp_lt hx hb d_Reader_isAsItMust_113 rfl (fun h113_20 => ?_) (fun h113_20 => ?_)
    · have hf := sm_t h113_20 hf
      refine lv_iconst (v := 0) hx hb d_Reader_isAsItMust_132 (by decide) ?_
      obtain rfl := Option.some.inj hf
      exact sm_zret0 hC hr rfl hlk d_Reader_isAsItMust_133
    · have hf := sm_f h113_20 hf
      refine lv_aload_n hx hb d_Reader_isAsItMust_116 rfl (lv_at hl 1 rfl) ?_
      refine lv_iconst (v := 2) hx hb d_Reader_isAsItMust_117 (by decide) ?_
      obtain ⟨r118_22, hc118_21, hf⟩ := sm_of_b1 hf
      refine ca_Reader_25 hC hK hG (c_Image_headerWord hc118_21) hl.1 ⟨Nat.le_of_ble_eq_true rfl, Nat.le_of_ble_eq_true rfl⟩ ⟨Nat.zero_le _, Nat.zero_le _⟩ (Nat.le_of_ble_eq_true rfl) d_Reader_isAsItMust_118 ?_
      refine lv_iload_n hx hb d_Reader_isAsItMust_121 rfl (lv_at hl 0 rfl) ?_
      obtain ⟨r122_25, hc122_24, hf⟩ := sm_of_b1 hf
      refine ca_Reader_34 hC hK hG (c_Reader_isLength hc122_24) hl.1 ⟨Nat.le_of_ble_eq_true rfl, Nat.le_of_ble_eq_true rfl⟩ ⟨Nat.zero_le _, Nat.zero_le _⟩ (Nat.le_of_ble_eq_true rfl) d_Reader_isAsItMust_122 ?_
      refine lv_if_eq hx hb d_Reader_isAsItMust_125 rfl (fun h125_27 => ?_) (fun h125_27 => ?_)
      · have hf := sm_t h125_27 hf
        refine lv_iconst (v := 0) hx hb d_Reader_isAsItMust_132 (by decide) ?_
        obtain rfl := Option.some.inj hf
        exact sm_zret0 hC hr rfl hlk d_Reader_isAsItMust_133
      · have hf := sm_f h125_27 hf
        refine lv_iconst (v := 1) hx hb d_Reader_isAsItMust_128 (by decide) ?_
        refine lv_goto hx hb d_Reader_isAsItMust_129 rfl ?_
        obtain rfl := Option.some.inj hf
        exact sm_zret0 hC hr rfl hlk d_Reader_isAsItMust_133
  have hf := sm_f h7_19 hf
  by_cases h7_28 : a1 = 4
  · have hf := sm_t h7_28 hf
    refine lv_tableIn (tgt := 134) hx hb d_Reader_isAsItMust_7 (by rw [h7_28]; decide) (by rw [h7_28]; decide) (by rw [h7_28]; rfl) rfl ?_
    refine lv_iload_n hx hb d_Reader_isAsItMust_134 rfl (lv_at hl 0 rfl) ?_
    refine lv_bipush (v := 36) hx hb d_Reader_isAsItMust_135 (by decide) ?_
    refine lv_icmp_ne hx hb d_Reader_isAsItMust_137 rfl (fun h137_29 => ?_) (fun h137_29 => ?_)
    · have hf := sm_f h137_29 hf
      refine lv_iconst (v := 0) hx hb d_Reader_isAsItMust_144 (by decide) ?_
      obtain rfl := Option.some.inj hf
      exact sm_zret0 hC hr rfl hlk d_Reader_isAsItMust_145
    · have hf := sm_t h137_29 hf
      refine lv_iconst (v := 1) hx hb d_Reader_isAsItMust_140 (by decide) ?_
      refine lv_goto hx hb d_Reader_isAsItMust_141 rfl ?_
      obtain rfl := Option.some.inj hf
      exact sm_zret0 hC hr rfl hlk d_Reader_isAsItMust_145
  have hf := sm_f h7_28 hf
  by_cases h7_30 : a1 = 5
  · have hf := sm_t h7_30 hf
    refine lv_tableIn (tgt := 146) hx hb d_Reader_isAsItMust_7 (by rw [h7_30]; decide) (by rw [h7_30]; decide) (by rw [h7_30]; rfl) rfl ?_
    refine lv_iload_n hx hb d_Reader_isAsItMust_146 rfl (lv_at hl 0 rfl) ?_
    refine lv_bipush (v := 64) hx hb d_Reader_isAsItMust_147 (by decide) ?_
    refine lv_irem hx hb d_Reader_isAsItMust_149 (by decide) ?_
    refine lv_if_ne hx hb d_Reader_isAsItMust_150 rfl (fun h150_31 => ?_) (fun h150_31 => ?_)
    · have hf := sm_f h150_31 hf
      refine lv_iconst (v := 0) hx hb d_Reader_isAsItMust_167 (by decide) ?_
      obtain rfl := Option.some.inj hf
      exact sm_zret0 hC hr rfl hlk d_Reader_isAsItMust_168
    · have hf := sm_t h150_31 hf
      refine lv_iload_n hx hb d_Reader_isAsItMust_153 rfl (lv_at hl 0 rfl) ?_
      refine lv_i2l hx hb d_Reader_isAsItMust_154 rfl ?_
      refine lv_aload_n hx hb d_Reader_isAsItMust_155 rfl (lv_at hl 1 rfl) ?_
      obtain ⟨r156_33, hc156_32, hf⟩ := sm_of_b1 hf
      refine ca_Reader_30 hC hK hG (c_Reader_codeEnd hc156_32) hl.1 ⟨Nat.le_of_ble_eq_true rfl, Nat.le_of_ble_eq_true rfl⟩ ⟨Nat.zero_le _, Nat.zero_le _⟩ (Nat.le_of_ble_eq_true rfl) d_Reader_isAsItMust_156 ?_
      refine W.lcmp hx hb d_Reader_isAsItMust_159 ?_
      refine lv_if_lt hx hb d_Reader_isAsItMust_160 rfl (fun h160_35 => ?_) (fun h160_35 => ?_)
      · have hf := sm_t h160_35 hf
        refine lv_iconst (v := 0) hx hb d_Reader_isAsItMust_167 (by decide) ?_
        obtain rfl := Option.some.inj hf
        exact sm_zret0 hC hr rfl hlk d_Reader_isAsItMust_168
      · have hf := sm_f h160_35 hf
        refine lv_iconst (v := 1) hx hb d_Reader_isAsItMust_163 (by decide) ?_
        refine lv_goto hx hb d_Reader_isAsItMust_164 rfl ?_
        obtain rfl := Option.some.inj hf
        exact sm_zret0 hC hr rfl hlk d_Reader_isAsItMust_168
  have hf := sm_f h7_30 hf
  by_cases h7_36 : a1 = 6
  · have hf := sm_t h7_36 hf
    refine lv_tableIn (tgt := 169) hx hb d_Reader_isAsItMust_7 (by rw [h7_36]; decide) (by rw [h7_36]; decide) (by rw [h7_36]; rfl) rfl ?_
    refine lv_aload_n hx hb d_Reader_isAsItMust_169 rfl (lv_at hl 1 rfl) ?_
    refine lv_iconst (v := 5) hx hb d_Reader_isAsItMust_170 (by decide) ?_
    obtain ⟨r171_38, hc171_37, hf⟩ := sm_of_b1 hf
    refine ca_Reader_25 hC hK hG (c_Image_headerWord hc171_37) hl.1 ⟨Nat.le_of_ble_eq_true rfl, Nat.le_of_ble_eq_true rfl⟩ ⟨Nat.zero_le _, Nat.zero_le _⟩ (Nat.le_of_ble_eq_true rfl) d_Reader_isAsItMust_171 ?_
    refine lv_iload_n hx hb d_Reader_isAsItMust_174 rfl (lv_at hl 0 rfl) ?_
    obtain ⟨r175_41, hc175_40, hf⟩ := sm_of_b1 hf
    refine ca_Reader_34 hC hK hG (c_Reader_isLength hc175_40) hl.1 ⟨Nat.le_of_ble_eq_true rfl, Nat.le_of_ble_eq_true rfl⟩ ⟨Nat.zero_le _, Nat.zero_le _⟩ (Nat.le_of_ble_eq_true rfl) d_Reader_isAsItMust_175 ?_
    obtain ⟨h178_43, hf⟩ := sm_of_bo hf
    obtain rfl := Option.some.inj hf
    exact sm_zret0 hC hr (sm_nz h178_43) hlk d_Reader_isAsItMust_178
  have hf := sm_f h7_36 hf
  by_cases h7_44 : a1 = 7
  · have hf := sm_t h7_44 hf
    refine lv_tableIn (tgt := 179) hx hb d_Reader_isAsItMust_7 (by rw [h7_44]; decide) (by rw [h7_44]; decide) (by rw [h7_44]; rfl) rfl ?_
    refine lv_iload_n hx hb d_Reader_isAsItMust_179 rfl (lv_at hl 0 rfl) ?_
    refine lv_bipush (v := 36) hx hb d_Reader_isAsItMust_180 (by decide) ?_
    refine lv_aload_n hx hb d_Reader_isAsItMust_182 rfl (lv_at hl 1 rfl) ?_
    refine lv_iconst (v := 3) hx hb d_Reader_isAsItMust_183 (by decide) ?_
    obtain ⟨r184_46, hc184_45, hf⟩ := sm_of_b1 hf
    refine ca_Reader_25 hC hK hG (c_Image_headerWord hc184_45) hl.1 ⟨Nat.le_of_ble_eq_true rfl, Nat.le_of_ble_eq_true rfl⟩ ⟨Nat.zero_le _, Nat.zero_le _⟩ (Nat.le_of_ble_eq_true rfl) d_Reader_isAsItMust_184 ?_
    refine lv_iadd hx hb d_Reader_isAsItMust_187 ?_
    refine lv_icmp_ne hx hb d_Reader_isAsItMust_188 rfl (fun h188_48 => ?_) (fun h188_48 => ?_)
    · have hf := sm_f h188_48 hf
      refine lv_iconst (v := 0) hx hb d_Reader_isAsItMust_195 (by decide) ?_
      obtain rfl := Option.some.inj hf
      exact sm_zret0 hC hr rfl hlk d_Reader_isAsItMust_196
    · have hf := sm_t h188_48 hf
      refine lv_iconst (v := 1) hx hb d_Reader_isAsItMust_191 (by decide) ?_
      refine lv_goto hx hb d_Reader_isAsItMust_192 rfl ?_
      obtain rfl := Option.some.inj hf
      exact sm_zret0 hC hr rfl hlk d_Reader_isAsItMust_196
  have hf := sm_f h7_44 hf
  refine lv_tableOut (tgt := 197) hx hb d_Reader_isAsItMust_7 (by have := lv_neT (a := 0) h7_4 rfl; have := lv_neT (a := 1) h7_6 rfl; have := lv_neT (a := 2) h7_16 rfl; have := lv_neT (a := 3) h7_19 rfl; have := lv_neT (a := 4) h7_28 rfl; have := lv_neT (a := 5) h7_30 rfl; have := lv_neT (a := 6) h7_36 rfl; have := lv_neT (a := 7) h7_44 rfl; omega) rfl ?_
  refine lv_iload_n hx hb d_Reader_isAsItMust_197 rfl (lv_at hl 0 rfl) ?_
  refine lv_aload_n hx hb d_Reader_isAsItMust_198 rfl (lv_at hl 1 rfl) ?_
  obtain ⟨r199_50, hc199_49, hf⟩ := sm_of_b1 hf
  refine ca_Reader_38 hC hK hG (c_Image_headerSum hc199_49) hl.1 ⟨Nat.le_of_ble_eq_true rfl, Nat.le_of_ble_eq_true rfl⟩ ⟨Nat.zero_le _, Nat.zero_le _⟩ (Nat.le_of_ble_eq_true rfl) d_Reader_isAsItMust_199 ?_
  refine lv_icmp_ne hx hb d_Reader_isAsItMust_202 rfl (fun h202_52 => ?_) (fun h202_52 => ?_)
  · have hf := sm_f h202_52 hf
    refine lv_iconst (v := 0) hx hb d_Reader_isAsItMust_209 (by decide) ?_
    obtain rfl := Option.some.inj hf
    exact sm_zret0 hC hr rfl hlk d_Reader_isAsItMust_210
  · have hf := sm_t h202_52 hf
    refine lv_iconst (v := 1) hx hb d_Reader_isAsItMust_205 (by decide) ?_
    refine lv_goto hx hb d_Reader_isAsItMust_206 rfl ?_
    obtain rfl := Option.some.inj hf
    exact sm_zret0 hC hr rfl hlk d_Reader_isAsItMust_210
theorem ca_Reader_21 {p : Program} {l : Launch} {e : Env} {R : Room} {s : State} {m : MethodId} {args : Array Value} {below : List Frame} {meth : Method} {c : Code} {H : Heap} {locs : List Loc} {cells slots : Nat} {Q : State → Prop} {cc : ByteArray} {nL pc : Nat} {ls : Array Slot} {rest : List Value} {w0 : Cond} {v : sm_V} {M : sm_M} {o : sm_O} {x1 : Int32} {r : Int32} (hC : CallFix p m c cc nL s args (w0 :: sm_AW) R_Reader) (hK : sm_K v s) (hG : sm_G v M o s H locs) (hM : sm_Ri l y_Reader_isAsItMust w_Reader_isAsItMust rm_Reader_isAsItMust v [.ref (sm_a v 62), .int x1] M o r) (hsz : ls.size = nL) (hR : rm_Reader_isAsItMust.frames + 1 ≤ R.frames ∧ 8 + (3 + 11) + rm_Reader_isAsItMust.locals ≤ R.locals) (hcs : cells + 0 ≤ R.cells ∧ slots + 0 ≤ R.slots) (hW : (rest.map fun v => v.category).sum ≤ 8) (hdg : decode cc pc = .ok (.invokestatic 21, 3))
    (kk : W p l e R s m args below meth c H locs cells slots Q (F0 m (pc + 3) ls (.int r :: rest))) : W p l e R s m args below meth c H locs cells slots Q (F0 m pc ls (.int x1 :: .ref (sm_a v 62) :: rest)) :=
  sm_calli0 (va_runS (As := [.ref (sm_a v 62), .int x1]) (rest := rest) hC hM (cwS 2 hC.2.2.2.2 (sm_good (sm_inS aw_226 aw_227 aw_16 aw_228)) rfl rfl rfl (by decide +kernel) hR) (sm_preS hK hG) rfl rfl hsz rfl (lv_room hW) hdg hcs) kk
abbrev w_Reader_faultOf : List Cond := Cond.code y_Reader_faultOf b_Reader_faultOf 3 (some .int) :: sm_AW
abbrev rm_Reader_faultOf : Room := { frames := 4, cells := 0, slots := 0, locals := 86 }
def g_Reader_faultOf_2 (M : sm_M) (rec2 : Int32 → Option (Int32)) (w1 : Int32) : Option (Int32) :=
(if (9 : Int32) ≤ w1 then
sm_b1 (f_Image_headerWord M (3 : Int32)) fun r50_3 =>
sm_b1 (f_Image_headerWord M (6 : Int32)) fun r57_6 =>
sm_nm (((36 : Int32) + r50_3) + r57_6) fun x61_8 =>
(if (M 62 1) = x61_8 then
(some (0 : Int32))
else
(some (-10 : Int32)))
else
sm_gd w1 9 (
sm_nm (sm_ord (Int32.toNatClampNeg w1)) fun x15_11 =>
(if (M 62 1) < ((4 : Int32) * (x15_11 + (1 : Int32))) then
(some ((-1 : Int32) - x15_11))
else
sm_b1 (f_Reader_isAsItMust M x15_11) fun r30_14 =>
(if r30_14 = 0 then
(some ((-1 : Int32) - x15_11))
else
rec2 (w1 + (1 : Int32))))))
def f_Reader_faultOf (M : sm_M) : Option (Int32) :=
sm_lp1 (g_Reader_faultOf_2 M) 1100 (0 : Int32)
set_option maxHeartbeats 4000000 in
set_option maxRecDepth 100000 in
theorem lw_Reader_faultOf_2 {p : Program} {l : Launch} {e : Env} {s : State} {m : MethodId} {args : Array Value} {below : List Frame} {meth : Method} {c : Code} {v : sm_V} {o : sm_O} {r : Int32} (hC : CallFix p m c b_Reader_faultOf 3 s args w_Reader_faultOf R_Reader) (hr : meth.sig.returnType = some .int) (hlk : meth.locks = false) (hK : sm_K v s) (M : sm_M) (hG : sm_G v M o s s.heap []) :
    ∀ (n : Nat) (w1 : Int32) (ls : Array Slot), lv_has ls 3 [(1, .int w1), (0, .ref (sm_a v 62))] → sm_lp1 (g_Reader_faultOf_2 M) n w1 = some r → W p l e rm_Reader_faultOf s m args below meth c s.heap [] 0 0 (MQ below (sm_Qi0 r) args s 0 0 (fun _ => False)) (F0 m 2 ls []) := by
  have hx := hC.1
  have hb := hC.2.1
  intro n
  induction n with
  | zero =>
    intro w1 ls hl hf
    cases hf
  | succ n ih =>
    intro w1 ls hl hf
    have hf : g_Reader_faultOf_2 M (sm_lp1 (g_Reader_faultOf_2 M) n) w1 = some r := hf
    unfold g_Reader_faultOf_2 at hf
    refine lv_iload_n hx hb d_Reader_faultOf_2 rfl (lv_at hl 0 rfl) ?_
    refine sm_gets hC hK hG (hC.2.2.2.2 _ (List.mem_cons_of_mem _ aw_224)) d_Reader_faultOf_3 ?_
    refine sm_tlen hC hK hG d_Reader_faultOf_6 ?_
    refine lv_icmp_ge hx hb d_Reader_faultOf_7 rfl (fun h7_1 => ?_) (fun h7_1 => ?_)
    · have hf := sm_t h7_1 hf
      refine lv_bipush (v := 36) hx hb d_Reader_faultOf_46 (by decide) ?_
      refine lv_aload_n hx hb d_Reader_faultOf_48 rfl (lv_at hl 1 rfl) ?_
      refine lv_iconst (v := 3) hx hb d_Reader_faultOf_49 (by decide) ?_
      obtain ⟨r50_3, hc50_2, hf⟩ := sm_of_b1 hf
      refine ca_Reader_25 hC hK hG (c_Image_headerWord hc50_2) hl.1 ⟨Nat.le_of_ble_eq_true rfl, Nat.le_of_ble_eq_true rfl⟩ ⟨Nat.zero_le _, Nat.zero_le _⟩ (Nat.le_of_ble_eq_true rfl) d_Reader_faultOf_50 ?_
      refine lv_iadd hx hb d_Reader_faultOf_53 ?_
      refine lv_aload_n hx hb d_Reader_faultOf_54 rfl (lv_at hl 1 rfl) ?_
      refine lv_bipush (v := 6) hx hb d_Reader_faultOf_55 (by decide) ?_
      obtain ⟨r57_6, hc57_5, hf⟩ := sm_of_b1 hf
      refine ca_Reader_25 hC hK hG (c_Image_headerWord hc57_5) hl.1 ⟨Nat.le_of_ble_eq_true rfl, Nat.le_of_ble_eq_true rfl⟩ ⟨Nat.zero_le _, Nat.zero_le _⟩ (Nat.le_of_ble_eq_true rfl) d_Reader_faultOf_57 ?_
      refine lv_iadd hx hb d_Reader_faultOf_60 ?_
      refine lv_topi (fun x61_8 ex61_8 => ?_)
      have hf := sm_of ex61_8 hf
      refine lv_istore_n hx hb d_Reader_faultOf_61 rfl hl (Nat.le_of_ble_eq_true rfl) rfl (fun ls hl => ?_)
      have hl : lv_has ls 3 [(1, .int x61_8), (0, .ref (sm_a v 62))] := hl
      refine lv_aload_n hx hb d_Reader_faultOf_62 rfl (lv_at hl 1 rfl) ?_
      refine gf_Reader_15 hC hK hG d_Reader_faultOf_63 ?_
      refine lv_iload_n hx hb d_Reader_faultOf_66 rfl (lv_at hl 0 rfl) ?_
      refine lv_icmp_ne hx hb d_Reader_faultOf_67 rfl (fun h67_9 => ?_) (fun h67_9 => ?_)
      · have hf := sm_f h67_9 hf
        refine lv_bipush (v := -10) hx hb d_Reader_faultOf_74 (by decide) ?_
        obtain rfl := Option.some.inj hf
        exact sm_iret0 hC hr hlk d_Reader_faultOf_76
      · have hf := sm_t h67_9 hf
        refine lv_iconst (v := 0) hx hb d_Reader_faultOf_70 (by decide) ?_
        refine lv_goto hx hb d_Reader_faultOf_71 rfl ?_
        obtain rfl := Option.some.inj hf
        exact sm_iret0 hC hr hlk d_Reader_faultOf_76
    · have hf := sm_f h7_1 hf
      refine sm_gets hC hK hG (hC.2.2.2.2 _ (List.mem_cons_of_mem _ aw_224)) d_Reader_faultOf_10 ?_
      refine lv_iload_n hx hb d_Reader_faultOf_13 rfl (lv_at hl 0 rfl) ?_
      obtain ⟨h14_10, hf⟩ := sm_of_gd hf
      refine sm_tld hC hK hG h14_10 d_Reader_faultOf_14 ?_
      refine lv_topi (fun x15_11 ex15_11 => ?_)
      have hf := sm_of ex15_11 hf
      refine lv_istore_n hx hb d_Reader_faultOf_15 rfl hl (Nat.le_of_ble_eq_true rfl) rfl (fun ls hl => ?_)
      have hl : lv_has ls 3 [(2, .int x15_11), (1, .int w1), (0, .ref (sm_a v 62))] := hl
      refine lv_iconst (v := 4) hx hb d_Reader_faultOf_16 (by decide) ?_
      refine lv_iload_n hx hb d_Reader_faultOf_17 rfl (lv_at hl 0 rfl) ?_
      refine lv_iconst (v := 1) hx hb d_Reader_faultOf_18 (by decide) ?_
      refine lv_iadd hx hb d_Reader_faultOf_19 ?_
      refine lv_imul hx hb d_Reader_faultOf_20 ?_
      refine lv_aload_n hx hb d_Reader_faultOf_21 rfl (lv_at hl 2 rfl) ?_
      refine gf_Reader_15 hC hK hG d_Reader_faultOf_22 ?_
      refine lv_icmp_gt hx hb d_Reader_faultOf_25 rfl (fun h25_12 => ?_) (fun h25_12 => ?_)
      · have hf := sm_t h25_12 hf
        refine lv_iconst (v := -1) hx hb d_Reader_faultOf_36 (by decide) ?_
        refine lv_iload_n hx hb d_Reader_faultOf_37 rfl (lv_at hl 0 rfl) ?_
        refine lv_isub hx hb d_Reader_faultOf_38 ?_
        obtain rfl := Option.some.inj hf
        exact sm_iret0 hC hr hlk d_Reader_faultOf_39
      · have hf := sm_f h25_12 hf
        refine lv_aload_n hx hb d_Reader_faultOf_28 rfl (lv_at hl 2 rfl) ?_
        refine lv_iload_n hx hb d_Reader_faultOf_29 rfl (lv_at hl 0 rfl) ?_
        obtain ⟨r30_14, hc30_13, hf⟩ := sm_of_b1 hf
        refine ca_Reader_21 hC hK hG (c_Reader_isAsItMust hc30_13) hl.1 ⟨Nat.le_of_ble_eq_true rfl, Nat.le_of_ble_eq_true rfl⟩ ⟨Nat.zero_le _, Nat.zero_le _⟩ (Nat.le_of_ble_eq_true rfl) d_Reader_faultOf_30 ?_
        refine lv_if_ne hx hb d_Reader_faultOf_33 rfl (fun h33_16 => ?_) (fun h33_16 => ?_)
        · have hf := sm_f h33_16 hf
          refine lv_iinc (v := w1 + (1 : Int32)) (k := 1) hx hb d_Reader_faultOf_40 hl rfl rfl (Nat.le_of_ble_eq_true rfl) rfl (fun ls hl => ?_)
          have hl : lv_has ls 3 [(1, .int (w1 + (1 : Int32))), (2, .int x15_11), (0, .ref (sm_a v 62))] := hl
          refine lv_goto hx hb d_Reader_faultOf_43 rfl ?_
          exact ih _ ls (lv_sub hl [0, 2] rfl) hf
        · have hf := sm_t h33_16 hf
          refine lv_iconst (v := -1) hx hb d_Reader_faultOf_36 (by decide) ?_
          refine lv_iload_n hx hb d_Reader_faultOf_37 rfl (lv_at hl 0 rfl) ?_
          refine lv_isub hx hb d_Reader_faultOf_38 ?_
          obtain rfl := Option.some.inj hf
          exact sm_iret0 hC hr hlk d_Reader_faultOf_39
set_option maxHeartbeats 4000000 in
set_option maxRecDepth 100000 in
theorem c_Reader_faultOf {l : Launch} {v : sm_V} {o : sm_O} {M : sm_M} {r : Int32} (hf : f_Reader_faultOf M = some r) : sm_Ri l y_Reader_faultOf w_Reader_faultOf rm_Reader_faultOf v [.ref (sm_a v 62)] M o r  := by
  refine sm_met (cc := b_Reader_faultOf) (nL := 3) (ret := some .int) (plainFor_of_name (by decide)) rfl (Nat.le_of_ble_eq_true rfl) (fun p e s m args below meth c hC hr hlk hK hG ls hl => ?_)
  have hx := hC.1
  have hb := hC.2.1
  have hl : lv_has ls 3 [(0, .ref (sm_a v 62))] := hl
  unfold f_Reader_faultOf at hf
  refine lv_iconst (v := 0) hx hb d_Reader_faultOf_0 (by decide) ?_
  refine lv_istore_n hx hb d_Reader_faultOf_1 rfl hl (Nat.le_of_ble_eq_true rfl) rfl (fun ls hl => ?_)
  have hl : lv_has ls 3 [(1, .int (0 : Int32)), (0, .ref (sm_a v 62))] := hl
  exact lw_Reader_faultOf_2 hC hr hlk hK M hG 1100 _ ls hl hf
theorem ca_Machine_23 {p : Program} {l : Launch} {e : Env} {R : Room} {s : State} {m : MethodId} {args : Array Value} {below : List Frame} {meth : Method} {c : Code} {H : Heap} {locs : List Loc} {cells slots : Nat} {Q : State → Prop} {cc : ByteArray} {nL pc : Nat} {ls : Array Slot} {rest : List Value} {w0 : Cond} {v : sm_V} {M : sm_M} {o : sm_O} {x0 : Int32} {r : Int32} (hC : CallFix p m c cc nL s args (w0 :: sm_AW) R_Machine) (hK : sm_K v s) (hG : sm_G v M o s H locs) (hM : sm_Ri l y_Image_headerWord w_Image_headerWord rm_Image_headerWord v [.ref (sm_a v 62), .int x0] M o r) (hsz : ls.size = nL) (hR : rm_Image_headerWord.frames + 1 ≤ R.frames ∧ 8 + (2 + 11) + rm_Image_headerWord.locals ≤ R.locals) (hcs : cells + 0 ≤ R.cells ∧ slots + 0 ≤ R.slots) (hW : (rest.map fun v => v.category).sum ≤ 8) (hdg : decode cc pc = .ok (.invokevirtual 23, 3))
    (kk : W p l e R s m args below meth c H locs cells slots Q (F0 m (pc + 3) ls (.int r :: rest))) : W p l e R s m args below meth c H locs cells slots Q (F0 m pc ls (.int x0 :: .ref (sm_a v 62) :: rest)) :=
  sm_calli0 (va_runV (C := R_Image) (As := [.int x0]) (rest := rest) hC hM (cwV 1 hC.2.2.2.2 (sm_good (sm_inV aw_254 aw_230 aw_231 aw_5 aw_232)) rfl rfl rfl (by decide +kernel) hR) (sm_preV hK hG (by decide) rfl rfl) rfl rfl hsz rfl (lv_room hW) hdg hcs) kk
theorem ca_Machine_42 {p : Program} {l : Launch} {e : Env} {R : Room} {s : State} {m : MethodId} {args : Array Value} {below : List Frame} {meth : Method} {c : Code} {H : Heap} {locs : List Loc} {cells slots : Nat} {Q : State → Prop} {cc : ByteArray} {nL pc : Nat} {ls : Array Slot} {rest : List Value} {w0 : Cond} {v : sm_V} {M : sm_M} {o : sm_O} {x0 : Int32} {r : Int32} (hC : CallFix p m c cc nL s args (w0 :: sm_AW) R_Machine) (hK : sm_K v s) (hG : sm_G v M o s H locs) (hM : sm_Ri l y_Image_wordAt w_Image_wordAt rm_Image_wordAt v [.ref (sm_a v 62), .int x0] M o r) (hsz : ls.size = nL) (hR : rm_Image_wordAt.frames + 1 ≤ R.frames ∧ 8 + (2 + 11) + rm_Image_wordAt.locals ≤ R.locals) (hcs : cells + 0 ≤ R.cells ∧ slots + 0 ≤ R.slots) (hW : (rest.map fun v => v.category).sum ≤ 8) (hdg : decode cc pc = .ok (.invokevirtual 42, 3))
    (kk : W p l e R s m args below meth c H locs cells slots Q (F0 m (pc + 3) ls (.int r :: rest))) : W p l e R s m args below meth c H locs cells slots Q (F0 m pc ls (.int x0 :: .ref (sm_a v 62) :: rest)) :=
  sm_calli0 (va_runV (C := R_Image) (As := [.int x0]) (rest := rest) hC hM (cwV 1 hC.2.2.2.2 (sm_good (sm_inV aw_255 aw_234 aw_235 aw_5 aw_236)) rfl rfl rfl (by decide +kernel) hR) (sm_preV hK hG (by decide) rfl rfl) rfl rfl hsz rfl (lv_room hW) hdg hcs) kk
abbrev w_Machine_start : List Cond := Cond.code y_Machine_start b_Machine_start 3 (none) :: sm_AW
abbrev rm_Machine_start : Room := { frames := 2, cells := 0, slots := 0, locals := 42 }
def g_Machine_start_80 (rec80 : sm_M → Int32 → Option (sm_M)) (M : sm_M) (w2 : Int32) : Option (sm_M) :=
(if (32 : Int32) ≤ w2 then
sm_nm (sm_up M 64 7 (1 : Int32)) fun M101_19 =>
sm_b1 (f_Image_headerWord M101_19 (1 : Int32)) fun r107_21 =>
sm_nm (sm_up M101_19 64 8 r107_21) fun M110_23 =>
sm_nm (sm_up M110_23 64 9 (0 : Int32)) fun M115_24 =>
sm_nm (sm_up M115_24 64 10 (0 : Int32)) fun M120_25 =>
(some M120_25)
else
sm_gd w2 32 (
sm_nm (sm_up M 66 (Int32.toNatClampNeg w2) (0 : Int32)) fun M92_27 =>
rec80 M92_27 (w2 + (1 : Int32))))
def g_Machine_start_43 (rec43 : sm_M → Int32 → Option (sm_M)) (M : sm_M) (w2 : Int32) : Option (sm_M) :=
(if ((M 64 4) + (M 64 6)) ≤ w2 then
sm_lp2 (g_Machine_start_80) 1100 M (0 : Int32)
else
sm_b1 (f_Image_wordAt M ((36 : Int32) + ((4 : Int32) * w2))) fun r68_29 =>
sm_gd w2 241 (
sm_nm (sm_up M 65 (Int32.toNatClampNeg w2) r68_29) fun M71_32 =>
rec43 M71_32 (w2 + (1 : Int32))))
def f_Machine_start (M : sm_M) : Option (sm_M) :=
sm_b1 (f_Image_headerWord M (2 : Int32)) fun r3_2 =>
sm_nm (sm_up M 64 3 r3_2) fun M6_4 =>
sm_b1 (f_Image_headerWord M6_4 (3 : Int32)) fun r12_6 =>
sm_nm (sm_up M6_4 64 4 (r12_6 / (4 : Int32))) fun M17_8 =>
sm_b1 (f_Image_headerWord M17_8 (5 : Int32)) fun r23_10 =>
sm_nm (sm_up M17_8 64 5 r23_10) fun M26_12 =>
sm_b1 (f_Image_headerWord M26_12 (6 : Int32)) fun r33_14 =>
sm_nm (sm_up M26_12 64 6 (r33_14 / (4 : Int32))) fun M38_16 =>
sm_lp2 (g_Machine_start_43) 1100 M38_16 (0 : Int32)
set_option maxHeartbeats 4000000 in
set_option maxRecDepth 100000 in
theorem lw_Machine_start_80 {p : Program} {l : Launch} {e : Env} {s : State} {m : MethodId} {args : Array Value} {below : List Frame} {meth : Method} {c : Code} {v : sm_V} {o : sm_O} {M' : sm_M} (hC : CallFix p m c b_Machine_start 3 s args w_Machine_start R_Machine) (hr : meth.sig.returnType = none) (hlk : meth.locks = false) (hK : sm_K v s) :
    ∀ (n : Nat) (M : sm_M) (w2 : Int32) (H : Heap) (locs : List Loc) (ls : Array Slot), sm_G v M o s H locs → lv_has ls 3 [(2, .int w2), (0, .ref (sm_a v 64)), (1, .ref (sm_a v 62))] → sm_lp2 (g_Machine_start_80) n M w2 = some M' → W p l e rm_Machine_start s m args below meth c H locs 0 0 (MQ below (sm_Qv v M' o) args s 0 0 (sm_A v)) (F0 m 80 ls []) := by
  have hx := hC.1
  have hb := hC.2.1
  intro n
  induction n with
  | zero =>
    intro M w2 H locs ls hG hl hf
    cases hf
  | succ n ih =>
    intro M w2 H locs ls hG hl hf
    have hf : g_Machine_start_80 (sm_lp2 (g_Machine_start_80) n) M w2 = some M' := hf
    unfold g_Machine_start_80 at hf
    refine lv_iload_n hx hb d_Machine_start_80 rfl (lv_at hl 0 rfl) ?_
    refine lv_bipush (v := 32) hx hb d_Machine_start_81 (by decide) ?_
    refine lv_icmp_ge hx hb d_Machine_start_83 rfl (fun h83_18 => ?_) (fun h83_18 => ?_)
    · have hf := sm_t h83_18 hf
      refine lv_aload_n hx hb d_Machine_start_99 rfl (lv_at hl 1 rfl) ?_
      refine lv_iconst (v := 1) hx hb d_Machine_start_100 (by decide) ?_
      refine pf_Machine_45 hC hK hG d_Machine_start_101 (fun M101_19 H locs eM101_19 hG => ?_)
      have hf := sm_of eM101_19 hf
      refine lv_aload_n hx hb d_Machine_start_104 rfl (lv_at hl 1 rfl) ?_
      refine lv_aload_n hx hb d_Machine_start_105 rfl (lv_at hl 2 rfl) ?_
      refine lv_iconst (v := 1) hx hb d_Machine_start_106 (by decide) ?_
      obtain ⟨r107_21, hc107_20, hf⟩ := sm_of_b1 hf
      refine ca_Machine_23 hC hK hG (c_Image_headerWord hc107_20) hl.1 ⟨Nat.le_of_ble_eq_true rfl, Nat.le_of_ble_eq_true rfl⟩ ⟨Nat.zero_le _, Nat.zero_le _⟩ (Nat.le_of_ble_eq_true rfl) d_Machine_start_107 ?_
      refine pf_Machine_48 hC hK hG d_Machine_start_110 (fun M110_23 H locs eM110_23 hG => ?_)
      have hf := sm_of eM110_23 hf
      refine lv_aload_n hx hb d_Machine_start_113 rfl (lv_at hl 1 rfl) ?_
      refine lv_iconst (v := 0) hx hb d_Machine_start_114 (by decide) ?_
      refine pf_Machine_51 hC hK hG d_Machine_start_115 (fun M115_24 H locs eM115_24 hG => ?_)
      have hf := sm_of eM115_24 hf
      refine lv_aload_n hx hb d_Machine_start_118 rfl (lv_at hl 1 rfl) ?_
      refine lv_iconst (v := 0) hx hb d_Machine_start_119 (by decide) ?_
      refine pf_Machine_54 hC hK hG d_Machine_start_120 (fun M120_25 H locs eM120_25 hG => ?_)
      have hf := sm_of eM120_25 hf
      obtain rfl := Option.some.inj hf
      exact sm_vret hC hr hlk hG d_Machine_start_123
    · have hf := sm_f h83_18 hf
      refine lv_aload_n hx hb d_Machine_start_86 rfl (lv_at hl 1 rfl) ?_
      refine gf_Machine_15 hC hK hG d_Machine_start_87 ?_
      refine lv_iload_n hx hb d_Machine_start_90 rfl (lv_at hl 0 rfl) ?_
      refine lv_iconst (v := 0) hx hb d_Machine_start_91 (by decide) ?_
      obtain ⟨h92_26, hf⟩ := sm_of_gd hf
      refine sm_iast hC hK hG (by decide) rfl h92_26 d_Machine_start_92 (fun M92_27 H locs eM92_27 hG => ?_)
      have hf := sm_of eM92_27 hf
      refine lv_iinc (v := w2 + (1 : Int32)) (k := 0) hx hb d_Machine_start_93 hl rfl rfl (Nat.le_of_ble_eq_true rfl) rfl (fun ls hl => ?_)
      have hl : lv_has ls 3 [(2, .int (w2 + (1 : Int32))), (0, .ref (sm_a v 64)), (1, .ref (sm_a v 62))] := hl
      refine lv_goto hx hb d_Machine_start_96 rfl ?_
      exact ih _ _ _ _ ls hG hl hf
set_option maxHeartbeats 4000000 in
set_option maxRecDepth 100000 in
theorem lw_Machine_start_43 {p : Program} {l : Launch} {e : Env} {s : State} {m : MethodId} {args : Array Value} {below : List Frame} {meth : Method} {c : Code} {v : sm_V} {o : sm_O} {M' : sm_M} (hC : CallFix p m c b_Machine_start 3 s args w_Machine_start R_Machine) (hr : meth.sig.returnType = none) (hlk : meth.locks = false) (hK : sm_K v s) :
    ∀ (n : Nat) (M : sm_M) (w2 : Int32) (H : Heap) (locs : List Loc) (ls : Array Slot), sm_G v M o s H locs → lv_has ls 3 [(2, .int w2), (0, .ref (sm_a v 64)), (1, .ref (sm_a v 62))] → sm_lp2 (g_Machine_start_43) n M w2 = some M' → W p l e rm_Machine_start s m args below meth c H locs 0 0 (MQ below (sm_Qv v M' o) args s 0 0 (sm_A v)) (F0 m 43 ls []) := by
  have hx := hC.1
  have hb := hC.2.1
  intro n
  induction n with
  | zero =>
    intro M w2 H locs ls hG hl hf
    cases hf
  | succ n ih =>
    intro M w2 H locs ls hG hl hf
    have hf : g_Machine_start_43 (sm_lp2 (g_Machine_start_43) n) M w2 = some M' := hf
    unfold g_Machine_start_43 at hf
    refine lv_iload_n hx hb d_Machine_start_43 rfl (lv_at hl 0 rfl) ?_
    refine lv_aload_n hx hb d_Machine_start_44 rfl (lv_at hl 1 rfl) ?_
    refine gf_Machine_33 hC hK hG d_Machine_start_45 ?_
    refine lv_aload_n hx hb d_Machine_start_48 rfl (lv_at hl 1 rfl) ?_
    refine gf_Machine_39 hC hK hG d_Machine_start_49 ?_
    refine lv_iadd hx hb d_Machine_start_52 ?_
    refine lv_icmp_ge hx hb d_Machine_start_53 rfl (fun h53_17 => ?_) (fun h53_17 => ?_)
    · have hf := sm_t h53_17 hf
      refine lv_iconst (v := 0) hx hb d_Machine_start_78 (by decide) ?_
      refine lv_istore_n hx hb d_Machine_start_79 rfl hl (Nat.le_of_ble_eq_true rfl) rfl (fun ls hl => ?_)
      have hl : lv_has ls 3 [(2, .int (0 : Int32)), (0, .ref (sm_a v 64)), (1, .ref (sm_a v 62))] := hl
      exact lw_Machine_start_80 hC hr hlk hK  1100 _ _ _ _ ls hG hl hf
    · have hf := sm_f h53_17 hf
      refine lv_aload_n hx hb d_Machine_start_56 rfl (lv_at hl 1 rfl) ?_
      refine gf_Machine_11 hC hK hG d_Machine_start_57 ?_
      refine lv_iload_n hx hb d_Machine_start_60 rfl (lv_at hl 0 rfl) ?_
      refine lv_aload_n hx hb d_Machine_start_61 rfl (lv_at hl 2 rfl) ?_
      refine lv_bipush (v := 36) hx hb d_Machine_start_62 (by decide) ?_
      refine lv_iconst (v := 4) hx hb d_Machine_start_64 (by decide) ?_
      refine lv_iload_n hx hb d_Machine_start_65 rfl (lv_at hl 0 rfl) ?_
      refine lv_imul hx hb d_Machine_start_66 ?_
      refine lv_iadd hx hb d_Machine_start_67 ?_
      obtain ⟨r68_29, hc68_28, hf⟩ := sm_of_b1 hf
      refine ca_Machine_42 hC hK hG (c_Image_wordAt hc68_28) hl.1 ⟨Nat.le_of_ble_eq_true rfl, Nat.le_of_ble_eq_true rfl⟩ ⟨Nat.zero_le _, Nat.zero_le _⟩ (Nat.le_of_ble_eq_true rfl) d_Machine_start_68 ?_
      obtain ⟨h71_31, hf⟩ := sm_of_gd hf
      refine sm_iast hC hK hG (by decide) rfl h71_31 d_Machine_start_71 (fun M71_32 H locs eM71_32 hG => ?_)
      have hf := sm_of eM71_32 hf
      refine lv_iinc (v := w2 + (1 : Int32)) (k := 0) hx hb d_Machine_start_72 hl rfl rfl (Nat.le_of_ble_eq_true rfl) rfl (fun ls hl => ?_)
      have hl : lv_has ls 3 [(2, .int (w2 + (1 : Int32))), (0, .ref (sm_a v 64)), (1, .ref (sm_a v 62))] := hl
      refine lv_goto hx hb d_Machine_start_75 rfl ?_
      exact ih _ _ _ _ ls hG hl hf
set_option maxHeartbeats 4000000 in
set_option maxRecDepth 100000 in
theorem c_Machine_start {l : Launch} {v : sm_V} {o : sm_O} {M : sm_M} {M' : sm_M} (hf : f_Machine_start M = some M') : sm_Cv l y_Machine_start w_Machine_start rm_Machine_start v [.ref (sm_a v 64), .ref (sm_a v 62)] M o M' := by
  refine sm_met (cc := b_Machine_start) (nL := 3) (ret := none) (plainFor_of_name (by decide)) rfl (Nat.le_of_ble_eq_true rfl) (fun p e s m args below meth c hC hr hlk hK hG ls hl => ?_)
  have hx := hC.1
  have hb := hC.2.1
  have hl : lv_has ls 3 [(0, .ref (sm_a v 64)), (1, .ref (sm_a v 62))] := hl
  unfold f_Machine_start at hf
  refine lv_aload_n hx hb d_Machine_start_0 rfl (lv_at hl 0 rfl) ?_
  refine lv_aload_n hx hb d_Machine_start_1 rfl (lv_at hl 1 rfl) ?_
  refine lv_iconst (v := 2) hx hb d_Machine_start_2 (by decide) ?_
  obtain ⟨r3_2, hc3_1, hf⟩ := sm_of_b1 hf
  refine ca_Machine_23 hC hK hG (c_Image_headerWord hc3_1) hl.1 ⟨Nat.le_of_ble_eq_true rfl, Nat.le_of_ble_eq_true rfl⟩ ⟨Nat.zero_le _, Nat.zero_le _⟩ (Nat.le_of_ble_eq_true rfl) d_Machine_start_3 ?_
  refine pf_Machine_29 hC hK hG d_Machine_start_6 (fun M6_4 H locs eM6_4 hG => ?_)
  have hf := sm_of eM6_4 hf
  refine lv_aload_n hx hb d_Machine_start_9 rfl (lv_at hl 0 rfl) ?_
  refine lv_aload_n hx hb d_Machine_start_10 rfl (lv_at hl 1 rfl) ?_
  refine lv_iconst (v := 3) hx hb d_Machine_start_11 (by decide) ?_
  obtain ⟨r12_6, hc12_5, hf⟩ := sm_of_b1 hf
  refine ca_Machine_23 hC hK hG (c_Image_headerWord hc12_5) hl.1 ⟨Nat.le_of_ble_eq_true rfl, Nat.le_of_ble_eq_true rfl⟩ ⟨Nat.zero_le _, Nat.zero_le _⟩ (Nat.le_of_ble_eq_true rfl) d_Machine_start_12 ?_
  refine lv_iconst (v := 4) hx hb d_Machine_start_15 (by decide) ?_
  refine lv_idiv hx hb d_Machine_start_16 (by decide) ?_
  refine pf_Machine_33 hC hK hG d_Machine_start_17 (fun M17_8 H locs eM17_8 hG => ?_)
  have hf := sm_of eM17_8 hf
  refine lv_aload_n hx hb d_Machine_start_20 rfl (lv_at hl 0 rfl) ?_
  refine lv_aload_n hx hb d_Machine_start_21 rfl (lv_at hl 1 rfl) ?_
  refine lv_iconst (v := 5) hx hb d_Machine_start_22 (by decide) ?_
  obtain ⟨r23_10, hc23_9, hf⟩ := sm_of_b1 hf
  refine ca_Machine_23 hC hK hG (c_Image_headerWord hc23_9) hl.1 ⟨Nat.le_of_ble_eq_true rfl, Nat.le_of_ble_eq_true rfl⟩ ⟨Nat.zero_le _, Nat.zero_le _⟩ (Nat.le_of_ble_eq_true rfl) d_Machine_start_23 ?_
  refine pf_Machine_36 hC hK hG d_Machine_start_26 (fun M26_12 H locs eM26_12 hG => ?_)
  have hf := sm_of eM26_12 hf
  refine lv_aload_n hx hb d_Machine_start_29 rfl (lv_at hl 0 rfl) ?_
  refine lv_aload_n hx hb d_Machine_start_30 rfl (lv_at hl 1 rfl) ?_
  refine lv_bipush (v := 6) hx hb d_Machine_start_31 (by decide) ?_
  obtain ⟨r33_14, hc33_13, hf⟩ := sm_of_b1 hf
  refine ca_Machine_23 hC hK hG (c_Image_headerWord hc33_13) hl.1 ⟨Nat.le_of_ble_eq_true rfl, Nat.le_of_ble_eq_true rfl⟩ ⟨Nat.zero_le _, Nat.zero_le _⟩ (Nat.le_of_ble_eq_true rfl) d_Machine_start_33 ?_
  refine lv_iconst (v := 4) hx hb d_Machine_start_36 (by decide) ?_
  refine lv_idiv hx hb d_Machine_start_37 (by decide) ?_
  refine pf_Machine_39 hC hK hG d_Machine_start_38 (fun M38_16 H locs eM38_16 hG => ?_)
  have hf := sm_of eM38_16 hf
  refine lv_iconst (v := 0) hx hb d_Machine_start_41 (by decide) ?_
  refine lv_istore_n hx hb d_Machine_start_42 rfl hl (Nat.le_of_ble_eq_true rfl) rfl (fun ls hl => ?_)
  have hl : lv_has ls 3 [(2, .int (0 : Int32)), (0, .ref (sm_a v 64)), (1, .ref (sm_a v 62))] := hl
  exact lw_Machine_start_43 hC hr hlk hK  1100 _ _ _ _ ls hG hl hf
abbrev w_Machine_placeOf : List Cond := Cond.code y_Machine_placeOf b_Machine_placeOf 5 (some .int) :: sm_AW
abbrev rm_Machine_placeOf : Room := { frames := 0, cells := 0, slots := 0, locals := 0 }
def f_Machine_placeOf (a0 : Int32) (a1 : Int32) (a2 : Int32) : Option (Int32) :=
sm_nm ((Int32.toInt64 a0) - (Int32.toInt64 a1)) fun x5_1 =>
(if (lg_cmp x5_1 (0 : Int64)) < 0 then
(some (-1 : Int32))
else
(if 0 ≤ (lg_cmp x5_1 ((4 : Int64) * (Int32.toInt64 a2))) then
(some (-1 : Int32))
else
(if (lg_cmp (x5_1 - x5_1 / (4 : Int64) * (4 : Int64)) (0 : Int64)) = 0 then
(some (Int64.toInt32 (x5_1 / (4 : Int64))))
else
(some (-1 : Int32)))))
set_option maxHeartbeats 4000000 in
set_option maxRecDepth 100000 in
theorem c_Machine_placeOf {l : Launch} {v : sm_V} {o : sm_O} {M : sm_M} {a0 : Int32} {a1 : Int32} {a2 : Int32} {r : Int32} (hf : f_Machine_placeOf a0 a1 a2 = some r) : sm_Ri l y_Machine_placeOf w_Machine_placeOf rm_Machine_placeOf v [.int a0, .int a1, .int a2] M o r  := by
  refine sm_met (cc := b_Machine_placeOf) (nL := 5) (ret := some .int) (plainFor_of_name (by decide)) rfl (Nat.le_of_ble_eq_true rfl) (fun p e s m args below meth c hC hr hlk hK hG ls hl => ?_)
  have hx := hC.1
  have hb := hC.2.1
  have hl : lv_has ls 5 [(0, .int a0), (1, .int a1), (2, .int a2)] := hl
  unfold f_Machine_placeOf at hf
  refine lv_iload_n hx hb d_Machine_placeOf_0 rfl (lv_at hl 0 rfl) ?_
  refine lv_i2l hx hb d_Machine_placeOf_1 rfl ?_
  refine lv_iload_n hx hb d_Machine_placeOf_2 rfl (lv_at hl 1 rfl) ?_
  refine lv_i2l hx hb d_Machine_placeOf_3 rfl ?_
  refine lv_lsub hx hb d_Machine_placeOf_4 ?_
  refine lv_topl (fun x5_1 ex5_1 => ?_)
  have hf := sm_of ex5_1 hf
  refine lv_lstore_n hx hb d_Machine_placeOf_5 rfl hl (Nat.le_of_ble_eq_true rfl) rfl (fun ls hl => ?_)
  have hl : lv_has ls 5 [(3, .long x5_1), (0, .int a0), (1, .int a1), (2, .int a2)] := hl
  have hl : lv_has ls 5 [(3, .long x5_1), (2, .int a2)] := lv_sub hl [0, 3] rfl
  refine lv_lload_n hx hb d_Machine_placeOf_6 rfl (lv_at hl 0 rfl) ?_
  refine lv_lconst (v := 0) hx hb d_Machine_placeOf_7 (by decide) ?_
  refine W.lcmp hx hb d_Machine_placeOf_8 ?_
  refine lv_if_lt hx hb d_Machine_placeOf_9 rfl (fun h9_2 => ?_) (fun h9_2 => ?_)
  · have hf := sm_t h9_2 hf
    refine lv_iconst (v := -1) hx hb d_Machine_placeOf_33 (by decide) ?_
    obtain rfl := Option.some.inj hf
    exact sm_iret0 hC hr hlk d_Machine_placeOf_34
  · have hf := sm_f h9_2 hf
    refine lv_lload_n hx hb d_Machine_placeOf_12 rfl (lv_at hl 0 rfl) ?_
    refine lv_ldc2 hx hb hC.2.2.2.1 (hC.2.2.2.2 _ (List.mem_cons_of_mem _ aw_596)) d_Machine_placeOf_13 ?_
    refine lv_iload_n hx hb d_Machine_placeOf_16 rfl (lv_at hl 1 rfl) ?_
    refine lv_i2l hx hb d_Machine_placeOf_17 rfl ?_
    refine lv_lmul hx hb d_Machine_placeOf_18 ?_
    refine W.lcmp hx hb d_Machine_placeOf_19 ?_
    refine lv_if_ge hx hb d_Machine_placeOf_20 rfl (fun h20_3 => ?_) (fun h20_3 => ?_)
    · have hf := sm_t h20_3 hf
      refine lv_iconst (v := -1) hx hb d_Machine_placeOf_33 (by decide) ?_
      obtain rfl := Option.some.inj hf
      exact sm_iret0 hC hr hlk d_Machine_placeOf_34
    · have hf := sm_f h20_3 hf
      refine lv_lload_n hx hb d_Machine_placeOf_23 rfl (lv_at hl 0 rfl) ?_
      refine lv_ldc2 hx hb hC.2.2.2.1 (hC.2.2.2.2 _ (List.mem_cons_of_mem _ aw_596)) d_Machine_placeOf_24 ?_
      refine lv_lrem hx hb d_Machine_placeOf_27 (by decide) ?_
      refine lv_lconst (v := 0) hx hb d_Machine_placeOf_28 (by decide) ?_
      refine W.lcmp hx hb d_Machine_placeOf_29 ?_
      refine lv_if_eq hx hb d_Machine_placeOf_30 rfl (fun h30_4 => ?_) (fun h30_4 => ?_)
      · have hf := sm_t h30_4 hf
        refine lv_lload_n hx hb d_Machine_placeOf_35 rfl (lv_at hl 0 rfl) ?_
        refine lv_ldc2 hx hb hC.2.2.2.1 (hC.2.2.2.2 _ (List.mem_cons_of_mem _ aw_596)) d_Machine_placeOf_36 ?_
        refine lv_ldiv hx hb d_Machine_placeOf_39 (by decide) ?_
        refine lv_l2i hx hb d_Machine_placeOf_40 rfl ?_
        obtain rfl := Option.some.inj hf
        exact sm_iret0 hC hr hlk d_Machine_placeOf_41
      · have hf := sm_f h30_4 hf
        refine lv_iconst (v := -1) hx hb d_Machine_placeOf_33 (by decide) ?_
        obtain rfl := Option.some.inj hf
        exact sm_iret0 hC hr hlk d_Machine_placeOf_34
abbrev w_Machine_setRegister : List Cond := Cond.code y_Machine_setRegister b_Machine_setRegister 3 (none) :: sm_AW
abbrev rm_Machine_setRegister : Room := { frames := 0, cells := 0, slots := 0, locals := 0 }
def f_Machine_setRegister (M : sm_M) (a0 : Int32) (a1 : Int32) : Option (sm_M) :=
(if a0 = 0 then
(some M)
else
sm_gd a0 32 (
sm_nm (sm_up M 66 (Int32.toNatClampNeg a0) a1) fun M10_3 =>
(some M10_3)))
set_option maxHeartbeats 4000000 in
set_option maxRecDepth 100000 in
theorem c_Machine_setRegister {l : Launch} {v : sm_V} {o : sm_O} {M : sm_M} {a0 : Int32} {a1 : Int32} {M' : sm_M} (hf : f_Machine_setRegister M a0 a1 = some M') : sm_Cv l y_Machine_setRegister w_Machine_setRegister rm_Machine_setRegister v [.ref (sm_a v 64), .int a0, .int a1] M o M' := by
  refine sm_met (cc := b_Machine_setRegister) (nL := 3) (ret := none) (plainFor_of_name (by decide)) rfl (Nat.le_of_ble_eq_true rfl) (fun p e s m args below meth c hC hr hlk hK hG ls hl => ?_)
  have hx := hC.1
  have hb := hC.2.1
  have hl : lv_has ls 3 [(0, .ref (sm_a v 64)), (1, .int a0), (2, .int a1)] := hl
  unfold f_Machine_setRegister at hf
  refine lv_iload_n hx hb d_Machine_setRegister_0 rfl (lv_at hl 1 rfl) ?_
  refine lv_if_eq hx hb d_Machine_setRegister_1 rfl (fun h1_1 => ?_) (fun h1_1 => ?_)
  · have hf := sm_t h1_1 hf
    obtain rfl := Option.some.inj hf
    exact sm_vret hC hr hlk hG d_Machine_setRegister_11
  · have hf := sm_f h1_1 hf
    refine lv_aload_n hx hb d_Machine_setRegister_4 rfl (lv_at hl 0 rfl) ?_
    refine gf_Machine_15 hC hK hG d_Machine_setRegister_5 ?_
    refine lv_iload_n hx hb d_Machine_setRegister_8 rfl (lv_at hl 1 rfl) ?_
    refine lv_iload_n hx hb d_Machine_setRegister_9 rfl (lv_at hl 2 rfl) ?_
    obtain ⟨h10_2, hf⟩ := sm_of_gd hf
    refine sm_iast hC hK hG (by decide) rfl h10_2 d_Machine_setRegister_10 (fun M10_3 H locs eM10_3 hG => ?_)
    have hf := sm_of eM10_3 hf
    obtain rfl := Option.some.inj hf
    exact sm_vret hC hr hlk hG d_Machine_setRegister_11
theorem ca_Machine_118 {p : Program} {l : Launch} {e : Env} {R : Room} {s : State} {m : MethodId} {args : Array Value} {below : List Frame} {meth : Method} {c : Code} {H : Heap} {locs : List Loc} {cells slots : Nat} {Q : State → Prop} {cc : ByteArray} {nL pc : Nat} {ls : Array Slot} {rest : List Value} {w0 : Cond} {v : sm_V} {M : sm_M} {o : sm_O} {x0 : Int32} {x1 : Int32} {M' : sm_M} (hC : CallFix p m c cc nL s args (w0 :: sm_AW) R_Machine) (hK : sm_K v s) (hG : sm_G v M o s H locs) (hM : sm_Cv l y_Machine_setRegister w_Machine_setRegister rm_Machine_setRegister v [.ref (sm_a v 64), .int x0, .int x1] M o M') (hsz : ls.size = nL) (hR : rm_Machine_setRegister.frames + 1 ≤ R.frames ∧ 8 + (3 + 11) + rm_Machine_setRegister.locals ≤ R.locals) (hcs : cells + 0 ≤ R.cells ∧ slots + 0 ≤ R.slots) (hW : (rest.map fun v => v.category).sum ≤ 8) (hdg : decode cc pc = .ok (.invokevirtual 118, 3))
    (kk : ∀ (H : Heap) (locs : List Loc), sm_G v M' o s H locs → W p l e R s m args below meth c H locs cells slots Q (F0 m (pc + 3) ls (rest))) : W p l e R s m args below meth c H locs cells slots Q (F0 m pc ls (.int x1 :: .int x0 :: .ref (sm_a v 64) :: rest)) :=
  sm_callv (va_runV (C := R_Machine) (As := [.int x0, .int x1]) (rest := rest) hC hM (cwV 2 hC.2.2.2.2 (sm_good (sm_inV aw_618 aw_620 as_21 aw_6 aw_621)) rfl rfl rfl (by decide +kernel) hR) (sm_preV hK hG (by decide) rfl rfl) rfl rfl hsz rfl (lv_room hW) hdg hcs) hG kk
abbrev w_Machine_goOnWith : List Cond := Cond.code y_Machine_goOnWith b_Machine_goOnWith 3 (none) :: sm_AW
abbrev rm_Machine_goOnWith : Room := { frames := 1, cells := 0, slots := 0, locals := 22 }
def f_Machine_goOnWith (M : sm_M) (a0 : Int32) (a1 : Int32) : Option (sm_M) :=
sm_b1 (f_Machine_setRegister M a0 a1) fun M3_3 =>
sm_nm (sm_up M3_3 64 8 ((M3_3 64 8) + (4 : Int32))) fun M13_4 =>
(some M13_4)
set_option maxHeartbeats 4000000 in
set_option maxRecDepth 100000 in
theorem c_Machine_goOnWith {l : Launch} {v : sm_V} {o : sm_O} {M : sm_M} {a0 : Int32} {a1 : Int32} {M' : sm_M} (hf : f_Machine_goOnWith M a0 a1 = some M') : sm_Cv l y_Machine_goOnWith w_Machine_goOnWith rm_Machine_goOnWith v [.ref (sm_a v 64), .int a0, .int a1] M o M' := by
  refine sm_met (cc := b_Machine_goOnWith) (nL := 3) (ret := none) (plainFor_of_name (by decide)) rfl (Nat.le_of_ble_eq_true rfl) (fun p e s m args below meth c hC hr hlk hK hG ls hl => ?_)
  have hx := hC.1
  have hb := hC.2.1
  have hl : lv_has ls 3 [(0, .ref (sm_a v 64)), (1, .int a0), (2, .int a1)] := hl
  unfold f_Machine_goOnWith at hf
  refine lv_aload_n hx hb d_Machine_goOnWith_0 rfl (lv_at hl 0 rfl) ?_
  refine lv_iload_n hx hb d_Machine_goOnWith_1 rfl (lv_at hl 1 rfl) ?_
  refine lv_iload_n hx hb d_Machine_goOnWith_2 rfl (lv_at hl 2 rfl) ?_
  obtain ⟨M3_3, hc3_1, hf⟩ := sm_of_b1 hf
  refine ca_Machine_118 hC hK hG (c_Machine_setRegister hc3_1) hl.1 ⟨Nat.le_of_ble_eq_true rfl, Nat.le_of_ble_eq_true rfl⟩ ⟨Nat.zero_le _, Nat.zero_le _⟩ (Nat.le_of_ble_eq_true rfl) d_Machine_goOnWith_3 (fun H locs hG => ?_)
  refine lv_aload_n hx hb d_Machine_goOnWith_6 rfl (lv_at hl 0 rfl) ?_
  refine lv_dup hx hb d_Machine_goOnWith_7 rfl ?_
  refine gf_Machine_48 hC hK hG d_Machine_goOnWith_8 ?_
  refine lv_iconst (v := 4) hx hb d_Machine_goOnWith_11 (by decide) ?_
  refine lv_iadd hx hb d_Machine_goOnWith_12 ?_
  refine pf_Machine_48 hC hK hG d_Machine_goOnWith_13 (fun M13_4 H locs eM13_4 hG => ?_)
  have hf := sm_of eM13_4 hf
  obtain rfl := Option.some.inj hf
  exact sm_vret hC hr hlk hG d_Machine_goOnWith_16
theorem ca_Machine_60 {p : Program} {l : Launch} {e : Env} {R : Room} {s : State} {m : MethodId} {args : Array Value} {below : List Frame} {meth : Method} {c : Code} {H : Heap} {locs : List Loc} {cells slots : Nat} {Q : State → Prop} {cc : ByteArray} {nL pc : Nat} {ls : Array Slot} {rest : List Value} {w0 : Cond} {v : sm_V} {M : sm_M} {o : sm_O} {x0 : Int32} {x1 : Int32} {x2 : Int32} {r : Int32} (hC : CallFix p m c cc nL s args (w0 :: sm_AW) R_Machine) (hK : sm_K v s) (hG : sm_G v M o s H locs) (hM : sm_Ri l y_Machine_placeOf w_Machine_placeOf rm_Machine_placeOf v [.int x0, .int x1, .int x2] M o r) (hsz : ls.size = nL) (hR : rm_Machine_placeOf.frames + 1 ≤ R.frames ∧ 8 + (5 + 11) + rm_Machine_placeOf.locals ≤ R.locals) (hcs : cells + 0 ≤ R.cells ∧ slots + 0 ≤ R.slots) (hW : (rest.map fun v => v.category).sum ≤ 8) (hdg : decode cc pc = .ok (.invokestatic 60, 3))
    (kk : W p l e R s m args below meth c H locs cells slots Q (F0 m (pc + 3) ls (.int r :: rest))) : W p l e R s m args below meth c H locs cells slots Q (F0 m pc ls (.int x2 :: .int x1 :: .int x0 :: rest)) :=
  sm_calli0 (va_runS (As := [.int x0, .int x1, .int x2]) (rest := rest) hC hM (cwS 3 hC.2.2.2.2 (sm_good (sm_inS aw_593 aw_594 aw_6 aw_595)) rfl rfl rfl (by decide +kernel) hR) (sm_preS hK hG) rfl rfl hsz rfl (lv_room hW) hdg hcs) kk
abbrev w_Machine_indexOf : List Cond := Cond.code y_Machine_indexOf b_Machine_indexOf 3 (some .int) :: sm_AW
abbrev rm_Machine_indexOf : Room := { frames := 1, cells := 0, slots := 0, locals := 24 }
def f_Machine_indexOf (M : sm_M) (a0 : Int32) : Option (Int32) :=
sm_b1 (f_Machine_placeOf a0 (M 64 3) (M 64 4)) fun r9_2 =>
(if r9_2 = (-1 : Int32) then
sm_b1 (f_Machine_placeOf a0 (M 64 5) (M 64 6)) fun r29_6 =>
(if r29_6 = (-1 : Int32) then
(some (-1 : Int32))
else
(some ((M 64 4) + r29_6)))
else
(some r9_2))
set_option maxHeartbeats 4000000 in
set_option maxRecDepth 100000 in
theorem c_Machine_indexOf {l : Launch} {v : sm_V} {o : sm_O} {M : sm_M} {a0 : Int32} {r : Int32} (hf : f_Machine_indexOf M a0 = some r) : sm_Ri l y_Machine_indexOf w_Machine_indexOf rm_Machine_indexOf v [.ref (sm_a v 64), .int a0] M o r  := by
  refine sm_met (cc := b_Machine_indexOf) (nL := 3) (ret := some .int) (plainFor_of_name (by decide)) rfl (Nat.le_of_ble_eq_true rfl) (fun p e s m args below meth c hC hr hlk hK hG ls hl => ?_)
  have hx := hC.1
  have hb := hC.2.1
  have hl : lv_has ls 3 [(0, .ref (sm_a v 64)), (1, .int a0)] := hl
  unfold f_Machine_indexOf at hf
  refine lv_iload_n hx hb d_Machine_indexOf_0 rfl (lv_at hl 1 rfl) ?_
  refine lv_aload_n hx hb d_Machine_indexOf_1 rfl (lv_at hl 0 rfl) ?_
  refine gf_Machine_29 hC hK hG d_Machine_indexOf_2 ?_
  refine lv_aload_n hx hb d_Machine_indexOf_5 rfl (lv_at hl 0 rfl) ?_
  refine gf_Machine_33 hC hK hG d_Machine_indexOf_6 ?_
  obtain ⟨r9_2, hc9_1, hf⟩ := sm_of_b1 hf
  refine ca_Machine_60 hC hK hG (c_Machine_placeOf hc9_1) hl.1 ⟨Nat.le_of_ble_eq_true rfl, Nat.le_of_ble_eq_true rfl⟩ ⟨Nat.zero_le _, Nat.zero_le _⟩ (Nat.le_of_ble_eq_true rfl) d_Machine_indexOf_9 ?_
  refine lv_istore_n hx hb d_Machine_indexOf_12 rfl hl (Nat.le_of_ble_eq_true rfl) rfl (fun ls hl => ?_)
  have hl : lv_has ls 3 [(2, .int r9_2), (0, .ref (sm_a v 64)), (1, .int a0)] := hl
  refine lv_iload_n hx hb d_Machine_indexOf_13 rfl (lv_at hl 0 rfl) ?_
  refine lv_iconst (v := -1) hx hb d_Machine_indexOf_14 (by decide) ?_
  refine lv_icmp_eq hx hb d_Machine_indexOf_15 rfl (fun h15_4 => ?_) (fun h15_4 => ?_)
  · have hf := sm_t h15_4 hf
    refine lv_iload_n hx hb d_Machine_indexOf_20 rfl (lv_at hl 2 rfl) ?_
    refine lv_aload_n hx hb d_Machine_indexOf_21 rfl (lv_at hl 1 rfl) ?_
    refine gf_Machine_36 hC hK hG d_Machine_indexOf_22 ?_
    refine lv_aload_n hx hb d_Machine_indexOf_25 rfl (lv_at hl 1 rfl) ?_
    refine gf_Machine_39 hC hK hG d_Machine_indexOf_26 ?_
    obtain ⟨r29_6, hc29_5, hf⟩ := sm_of_b1 hf
    refine ca_Machine_60 hC hK hG (c_Machine_placeOf hc29_5) hl.1 ⟨Nat.le_of_ble_eq_true rfl, Nat.le_of_ble_eq_true rfl⟩ ⟨Nat.zero_le _, Nat.zero_le _⟩ (Nat.le_of_ble_eq_true rfl) d_Machine_indexOf_29 ?_
    refine lv_istore_n hx hb d_Machine_indexOf_32 rfl hl (Nat.le_of_ble_eq_true rfl) rfl (fun ls hl => ?_)
    have hl : lv_has ls 3 [(2, .int r29_6), (0, .ref (sm_a v 64)), (1, .int a0)] := hl
    have hl : lv_has ls 3 [(2, .int r29_6), (0, .ref (sm_a v 64))] := lv_sub hl [0, 1] rfl
    refine lv_iload_n hx hb d_Machine_indexOf_33 rfl (lv_at hl 0 rfl) ?_
    refine lv_iconst (v := -1) hx hb d_Machine_indexOf_34 (by decide) ?_
    refine lv_icmp_ne hx hb d_Machine_indexOf_35 rfl (fun h35_8 => ?_) (fun h35_8 => ?_)
    · have hf := sm_f h35_8 hf
      refine lv_aload_n hx hb d_Machine_indexOf_42 rfl (lv_at hl 1 rfl) ?_
      refine gf_Machine_33 hC hK hG d_Machine_indexOf_43 ?_
      refine lv_iload_n hx hb d_Machine_indexOf_46 rfl (lv_at hl 0 rfl) ?_
      refine lv_iadd hx hb d_Machine_indexOf_47 ?_
      obtain rfl := Option.some.inj hf
      exact sm_iret0 hC hr hlk d_Machine_indexOf_48
    · have hf := sm_t h35_8 hf
      refine lv_iconst (v := -1) hx hb d_Machine_indexOf_38 (by decide) ?_
      refine lv_goto hx hb d_Machine_indexOf_39 rfl ?_
      obtain rfl := Option.some.inj hf
      exact sm_iret0 hC hr hlk d_Machine_indexOf_48
  · have hf := sm_f h15_4 hf
    refine lv_iload_n hx hb d_Machine_indexOf_18 rfl (lv_at hl 0 rfl) ?_
    obtain rfl := Option.some.inj hf
    exact sm_iret0 hC hr hlk d_Machine_indexOf_19
theorem ca_Machine_115 {p : Program} {l : Launch} {e : Env} {R : Room} {s : State} {m : MethodId} {args : Array Value} {below : List Frame} {meth : Method} {c : Code} {H : Heap} {locs : List Loc} {cells slots : Nat} {Q : State → Prop} {cc : ByteArray} {nL pc : Nat} {ls : Array Slot} {rest : List Value} {w0 : Cond} {v : sm_V} {M : sm_M} {o : sm_O} {x0 : Int32} {r : Int32} (hC : CallFix p m c cc nL s args (w0 :: sm_AW) R_Machine) (hK : sm_K v s) (hG : sm_G v M o s H locs) (hM : sm_Ri l y_Machine_indexOf w_Machine_indexOf rm_Machine_indexOf v [.ref (sm_a v 64), .int x0] M o r) (hsz : ls.size = nL) (hR : rm_Machine_indexOf.frames + 1 ≤ R.frames ∧ 8 + (3 + 11) + rm_Machine_indexOf.locals ≤ R.locals) (hcs : cells + 0 ≤ R.cells ∧ slots + 0 ≤ R.slots) (hW : (rest.map fun v => v.category).sum ≤ 8) (hdg : decode cc pc = .ok (.invokevirtual 115, 3))
    (kk : W p l e R s m args below meth c H locs cells slots Q (F0 m (pc + 3) ls (.int r :: rest))) : W p l e R s m args below meth c H locs cells slots Q (F0 m pc ls (.int x0 :: .ref (sm_a v 64) :: rest)) :=
  sm_calli0 (va_runV (C := R_Machine) (As := [.int x0]) (rest := rest) hC hM (cwV 1 hC.2.2.2.2 (sm_good (sm_inV aw_626 aw_627 aw_628 aw_6 aw_629)) rfl rfl rfl (by decide +kernel) hR) (sm_preV hK hG (by decide) rfl rfl) rfl rfl hsz rfl (lv_room hW) hdg hcs) kk
theorem ca_Machine_82 {p : Program} {l : Launch} {e : Env} {R : Room} {s : State} {m : MethodId} {args : Array Value} {below : List Frame} {meth : Method} {c : Code} {H : Heap} {locs : List Loc} {cells slots : Nat} {Q : State → Prop} {cc : ByteArray} {nL pc : Nat} {ls : Array Slot} {rest : List Value} {w0 : Cond} {v : sm_V} {M : sm_M} {o : sm_O} {x0 : Int32} {x1 : Int32} {M' : sm_M} (hC : CallFix p m c cc nL s args (w0 :: sm_AW) R_Machine) (hK : sm_K v s) (hG : sm_G v M o s H locs) (hM : sm_Cv l y_Machine_goOnWith w_Machine_goOnWith rm_Machine_goOnWith v [.ref (sm_a v 64), .int x0, .int x1] M o M') (hsz : ls.size = nL) (hR : rm_Machine_goOnWith.frames + 1 ≤ R.frames ∧ 8 + (3 + 11) + rm_Machine_goOnWith.locals ≤ R.locals) (hcs : cells + 0 ≤ R.cells ∧ slots + 0 ≤ R.slots) (hW : (rest.map fun v => v.category).sum ≤ 8) (hdg : decode cc pc = .ok (.invokevirtual 82, 3))
    (kk : ∀ (H : Heap) (locs : List Loc), sm_G v M' o s H locs → W p l e R s m args below meth c H locs cells slots Q (F0 m (pc + 3) ls (rest))) : W p l e R s m args below meth c H locs cells slots Q (F0 m pc ls (.int x1 :: .int x0 :: .ref (sm_a v 64) :: rest)) :=
  sm_callv (va_runV (C := R_Machine) (As := [.int x0, .int x1]) (rest := rest) hC hM (cwV 2 hC.2.2.2.2 (sm_good (sm_inV aw_614 aw_616 as_20 aw_6 aw_617)) rfl rfl rfl (by decide +kernel) hR) (sm_preV hK hG (by decide) rfl rfl) rfl rfl hsz rfl (lv_room hW) hdg hcs) hG kk
abbrev w_Machine_load : List Cond := Cond.code y_Machine_load b_Machine_load 4 (none) :: sm_AW
abbrev rm_Machine_load : Room := { frames := 2, cells := 0, slots := 0, locals := 46 }
def f_Machine_load (M : sm_M) (a0 : Int32) (a1 : Int32) : Option (sm_M) :=
sm_b1 (f_Machine_indexOf M a1) fun r2_2 =>
(if r2_2 = (-1 : Int32) then
sm_nm (sm_up M 64 7 (3 : Int32)) fun M13_9 =>
(some M13_9)
else
sm_gd r2_2 241 (
sm_b1 (f_Machine_goOnWith M a0 (M 65 (Int32.toNatClampNeg r2_2))) fun M27_8 =>
(some M27_8)))
set_option maxHeartbeats 4000000 in
set_option maxRecDepth 100000 in
theorem c_Machine_load {l : Launch} {v : sm_V} {o : sm_O} {M : sm_M} {a0 : Int32} {a1 : Int32} {M' : sm_M} (hf : f_Machine_load M a0 a1 = some M') : sm_Cv l y_Machine_load w_Machine_load rm_Machine_load v [.ref (sm_a v 64), .int a0, .int a1] M o M' := by
  refine sm_met (cc := b_Machine_load) (nL := 4) (ret := none) (plainFor_of_name (by decide)) rfl (Nat.le_of_ble_eq_true rfl) (fun p e s m args below meth c hC hr hlk hK hG ls hl => ?_)
  have hx := hC.1
  have hb := hC.2.1
  have hl : lv_has ls 4 [(0, .ref (sm_a v 64)), (1, .int a0), (2, .int a1)] := hl
  unfold f_Machine_load at hf
  refine lv_aload_n hx hb d_Machine_load_0 rfl (lv_at hl 0 rfl) ?_
  refine lv_iload_n hx hb d_Machine_load_1 rfl (lv_at hl 2 rfl) ?_
  obtain ⟨r2_2, hc2_1, hf⟩ := sm_of_b1 hf
  refine ca_Machine_115 hC hK hG (c_Machine_indexOf hc2_1) hl.1 ⟨Nat.le_of_ble_eq_true rfl, Nat.le_of_ble_eq_true rfl⟩ ⟨Nat.zero_le _, Nat.zero_le _⟩ (Nat.le_of_ble_eq_true rfl) d_Machine_load_2 ?_
  refine lv_istore_n hx hb d_Machine_load_5 rfl hl (Nat.le_of_ble_eq_true rfl) rfl (fun ls hl => ?_)
  have hl : lv_has ls 4 [(3, .int r2_2), (0, .ref (sm_a v 64)), (1, .int a0), (2, .int a1)] := hl
  have hl : lv_has ls 4 [(3, .int r2_2), (0, .ref (sm_a v 64)), (1, .int a0)] := lv_sub hl [0, 1, 2] rfl
  refine lv_iload_n hx hb d_Machine_load_6 rfl (lv_at hl 0 rfl) ?_
  refine lv_iconst (v := -1) hx hb d_Machine_load_7 (by decide) ?_
  refine lv_icmp_ne hx hb d_Machine_load_8 rfl (fun h8_4 => ?_) (fun h8_4 => ?_)
  · have hf := sm_f h8_4 hf
    refine lv_aload_n hx hb d_Machine_load_19 rfl (lv_at hl 1 rfl) ?_
    refine lv_iload_n hx hb d_Machine_load_20 rfl (lv_at hl 2 rfl) ?_
    refine lv_aload_n hx hb d_Machine_load_21 rfl (lv_at hl 1 rfl) ?_
    refine gf_Machine_11 hC hK hG d_Machine_load_22 ?_
    refine lv_iload_n hx hb d_Machine_load_25 rfl (lv_at hl 0 rfl) ?_
    obtain ⟨h26_5, hf⟩ := sm_of_gd hf
    refine sm_iald hC hK hG (by decide) rfl h26_5 d_Machine_load_26 ?_
    obtain ⟨M27_8, hc27_6, hf⟩ := sm_of_b1 hf
    refine ca_Machine_82 hC hK hG (c_Machine_goOnWith hc27_6) hl.1 ⟨Nat.le_of_ble_eq_true rfl, Nat.le_of_ble_eq_true rfl⟩ ⟨Nat.zero_le _, Nat.zero_le _⟩ (Nat.le_of_ble_eq_true rfl) d_Machine_load_27 (fun H locs hG => ?_)
    obtain rfl := Option.some.inj hf
    exact sm_vret hC hr hlk hG d_Machine_load_30
  · have hf := sm_t h8_4 hf
    refine lv_aload_n hx hb d_Machine_load_11 rfl (lv_at hl 1 rfl) ?_
    refine lv_iconst (v := 3) hx hb d_Machine_load_12 (by decide) ?_
    refine pf_Machine_45 hC hK hG d_Machine_load_13 (fun M13_9 H locs eM13_9 hG => ?_)
    have hf := sm_of eM13_9 hf
    refine lv_goto hx hb d_Machine_load_16 rfl ?_
    obtain rfl := Option.some.inj hf
    exact sm_vret hC hr hlk hG d_Machine_load_30
abbrev w_Machine_store : List Cond := Cond.code y_Machine_store b_Machine_store 4 (none) :: sm_AW
abbrev rm_Machine_store : Room := { frames := 2, cells := 0, slots := 0, locals := 46 }
def f_Machine_store (M : sm_M) (a0 : Int32) (a1 : Int32) : Option (sm_M) :=
sm_b1 (f_Machine_indexOf M a1) fun r2_2 =>
(if (M 64 4) ≤ r2_2 then
sm_gd a0 32 (
sm_gd r2_2 241 (
sm_nm (sm_up M 65 (Int32.toNatClampNeg r2_2) (M 66 (Int32.toNatClampNeg a0))) fun M33_7 =>
sm_nm (sm_up M33_7 64 8 ((M33_7 64 8) + (4 : Int32))) fun M41_8 =>
(some M41_8)))
else
sm_nm (sm_up M 64 7 (3 : Int32)) fun M16_9 =>
(some M16_9))
set_option maxHeartbeats 4000000 in
set_option maxRecDepth 100000 in
theorem c_Machine_store {l : Launch} {v : sm_V} {o : sm_O} {M : sm_M} {a0 : Int32} {a1 : Int32} {M' : sm_M} (hf : f_Machine_store M a0 a1 = some M') : sm_Cv l y_Machine_store w_Machine_store rm_Machine_store v [.ref (sm_a v 64), .int a0, .int a1] M o M' := by
  refine sm_met (cc := b_Machine_store) (nL := 4) (ret := none) (plainFor_of_name (by decide)) rfl (Nat.le_of_ble_eq_true rfl) (fun p e s m args below meth c hC hr hlk hK hG ls hl => ?_)
  have hx := hC.1
  have hb := hC.2.1
  have hl : lv_has ls 4 [(0, .ref (sm_a v 64)), (1, .int a0), (2, .int a1)] := hl
  unfold f_Machine_store at hf
  refine lv_aload_n hx hb d_Machine_store_0 rfl (lv_at hl 0 rfl) ?_
  refine lv_iload_n hx hb d_Machine_store_1 rfl (lv_at hl 2 rfl) ?_
  obtain ⟨r2_2, hc2_1, hf⟩ := sm_of_b1 hf
  refine ca_Machine_115 hC hK hG (c_Machine_indexOf hc2_1) hl.1 ⟨Nat.le_of_ble_eq_true rfl, Nat.le_of_ble_eq_true rfl⟩ ⟨Nat.zero_le _, Nat.zero_le _⟩ (Nat.le_of_ble_eq_true rfl) d_Machine_store_2 ?_
  refine lv_istore_n hx hb d_Machine_store_5 rfl hl (Nat.le_of_ble_eq_true rfl) rfl (fun ls hl => ?_)
  have hl : lv_has ls 4 [(3, .int r2_2), (0, .ref (sm_a v 64)), (1, .int a0), (2, .int a1)] := hl
  have hl : lv_has ls 4 [(3, .int r2_2), (0, .ref (sm_a v 64)), (1, .int a0)] := lv_sub hl [0, 1, 2] rfl
  refine lv_iload_n hx hb d_Machine_store_6 rfl (lv_at hl 0 rfl) ?_
  refine lv_aload_n hx hb d_Machine_store_7 rfl (lv_at hl 1 rfl) ?_
  refine gf_Machine_33 hC hK hG d_Machine_store_8 ?_
  refine lv_icmp_ge hx hb d_Machine_store_11 rfl (fun h11_4 => ?_) (fun h11_4 => ?_)
  · have hf := sm_t h11_4 hf
    refine lv_aload_n hx hb d_Machine_store_22 rfl (lv_at hl 1 rfl) ?_
    refine gf_Machine_11 hC hK hG d_Machine_store_23 ?_
    refine lv_iload_n hx hb d_Machine_store_26 rfl (lv_at hl 0 rfl) ?_
    refine lv_aload_n hx hb d_Machine_store_27 rfl (lv_at hl 1 rfl) ?_
    refine gf_Machine_15 hC hK hG d_Machine_store_28 ?_
    refine lv_iload_n hx hb d_Machine_store_31 rfl (lv_at hl 2 rfl) ?_
    obtain ⟨h32_5, hf⟩ := sm_of_gd hf
    refine sm_iald hC hK hG (by decide) rfl h32_5 d_Machine_store_32 ?_
    obtain ⟨h33_6, hf⟩ := sm_of_gd hf
    refine sm_iast hC hK hG (by decide) rfl h33_6 d_Machine_store_33 (fun M33_7 H locs eM33_7 hG => ?_)
    have hf := sm_of eM33_7 hf
    refine lv_aload_n hx hb d_Machine_store_34 rfl (lv_at hl 1 rfl) ?_
    refine lv_dup hx hb d_Machine_store_35 rfl ?_
    refine gf_Machine_48 hC hK hG d_Machine_store_36 ?_
    refine lv_iconst (v := 4) hx hb d_Machine_store_39 (by decide) ?_
    refine lv_iadd hx hb d_Machine_store_40 ?_
    refine pf_Machine_48 hC hK hG d_Machine_store_41 (fun M41_8 H locs eM41_8 hG => ?_)
    have hf := sm_of eM41_8 hf
    obtain rfl := Option.some.inj hf
    exact sm_vret hC hr hlk hG d_Machine_store_44
  · have hf := sm_f h11_4 hf
    refine lv_aload_n hx hb d_Machine_store_14 rfl (lv_at hl 1 rfl) ?_
    refine lv_iconst (v := 3) hx hb d_Machine_store_15 (by decide) ?_
    refine pf_Machine_45 hC hK hG d_Machine_store_16 (fun M16_9 H locs eM16_9 hG => ?_)
    have hf := sm_of eM16_9 hf
    refine lv_goto hx hb d_Machine_store_19 rfl ?_
    obtain rfl := Option.some.inj hf
    exact sm_vret hC hr hlk hG d_Machine_store_44
theorem ca_Machine_73 {p : Program} {l : Launch} {e : Env} {R : Room} {s : State} {m : MethodId} {args : Array Value} {below : List Frame} {meth : Method} {c : Code} {H : Heap} {locs : List Loc} {cells slots : Nat} {Q : State → Prop} {cc : ByteArray} {nL pc : Nat} {ls : Array Slot} {rest : List Value} {w0 : Cond} {v : sm_V} {M : sm_M} {o : sm_O} {x0 : Int32} {r : Int32} (hC : CallFix p m c cc nL s args (w0 :: sm_AW) R_Machine) (hK : sm_K v s) (hG : sm_G v M o s H locs) (hM : sm_Ri l y_Instr_aOf w_Instr_aOf rm_Instr_aOf v [.int x0] M o r) (hsz : ls.size = nL) (hR : rm_Instr_aOf.frames + 1 ≤ R.frames ∧ 8 + (1 + 11) + rm_Instr_aOf.locals ≤ R.locals) (hcs : cells + 0 ≤ R.cells ∧ slots + 0 ≤ R.slots) (hW : (rest.map fun v => v.category).sum ≤ 8) (hdg : decode cc pc = .ok (.invokestatic 73, 3))
    (kk : W p l e R s m args below meth c H locs cells slots Q (F0 m (pc + 3) ls (.int r :: rest))) : W p l e R s m args below meth c H locs cells slots Q (F0 m pc ls (.int x0 :: rest)) :=
  sm_calli0 (va_runS (As := [.int x0]) (rest := rest) hC hM (va_cwS 1 hC.2.2.2.2 (sm_good (sm_inT aw_604 aw_605 aw_8 aw_606)) rfl rfl rfl (by decide +kernel) hR) (sm_preS hK hG) rfl rfl hsz rfl (lv_room hW) hdg hcs) kk
theorem ca_Machine_76 {p : Program} {l : Launch} {e : Env} {R : Room} {s : State} {m : MethodId} {args : Array Value} {below : List Frame} {meth : Method} {c : Code} {H : Heap} {locs : List Loc} {cells slots : Nat} {Q : State → Prop} {cc : ByteArray} {nL pc : Nat} {ls : Array Slot} {rest : List Value} {w0 : Cond} {v : sm_V} {M : sm_M} {o : sm_O} {x0 : Int32} {r : Int32} (hC : CallFix p m c cc nL s args (w0 :: sm_AW) R_Machine) (hK : sm_K v s) (hG : sm_G v M o s H locs) (hM : sm_Ri l y_Instr_bOf w_Instr_bOf rm_Instr_bOf v [.int x0] M o r) (hsz : ls.size = nL) (hR : rm_Instr_bOf.frames + 1 ≤ R.frames ∧ 8 + (1 + 11) + rm_Instr_bOf.locals ≤ R.locals) (hcs : cells + 0 ≤ R.cells ∧ slots + 0 ≤ R.slots) (hW : (rest.map fun v => v.category).sum ≤ 8) (hdg : decode cc pc = .ok (.invokestatic 76, 3))
    (kk : W p l e R s m args below meth c H locs cells slots Q (F0 m (pc + 3) ls (.int r :: rest))) : W p l e R s m args below meth c H locs cells slots Q (F0 m pc ls (.int x0 :: rest)) :=
  sm_calli0 (va_runS (As := [.int x0]) (rest := rest) hC hM (va_cwS 1 hC.2.2.2.2 (sm_good (sm_inT aw_607 aw_608 aw_8 aw_609)) rfl rfl rfl (by decide +kernel) hR) (sm_preS hK hG) rfl rfl hsz rfl (lv_room hW) hdg hcs) kk
abbrev w_Machine_branches : List Cond := Cond.code y_Machine_branches b_Machine_branches 6 (some .boolean) :: sm_AW
abbrev rm_Machine_branches : Room := { frames := 1, cells := 0, slots := 0, locals := 20 }
def j_Machine_branches_50 (M : sm_M) (y1 : Int32) (z0 : Int32) : Option (Int32) :=
(if y1 = (13 : Int32) then
sm_bo z0 ((some z0))
else
(if z0 = 0 then
(some (1 : Int32))
else
(some (0 : Int32))))
def f_Machine_branches (M : sm_M) (a0 : Int32) (a1 : Int32) : Option (Int32) :=
sm_b1 (f_Instr_aOf a1) fun r5_2 =>
sm_gd r5_2 32 (
sm_nm (M 66 (Int32.toNatClampNeg r5_2)) fun x9_5 =>
sm_b1 (f_Instr_bOf a1) fun r15_7 =>
sm_gd r15_7 32 (
sm_nm (M 66 (Int32.toNatClampNeg r15_7)) fun x19_10 =>
(if a0 = (15 : Int32) then
(if x19_10 ≤ x9_5 then
(some (0 : Int32))
else
(some (1 : Int32)))
else
(if x9_5 = x19_10 then
j_Machine_branches_50 M a0 (1 : Int32)
else
j_Machine_branches_50 M a0 (0 : Int32)))))
set_option maxHeartbeats 4000000 in
set_option maxRecDepth 100000 in
theorem jw_Machine_branches_50 {p : Program} {l : Launch} {e : Env} {s : State} {m : MethodId} {args : Array Value} {below : List Frame} {meth : Method} {c : Code} {v : sm_V} {o : sm_O} {r : Int32} (hC : CallFix p m c b_Machine_branches 6 s args w_Machine_branches R_Machine) (hr : meth.sig.returnType = some .boolean) (hlk : meth.locks = false) (hK : sm_K v s) (M : sm_M) (y1 : Int32) (z0 : Int32) {ls : Array Slot} (hG : sm_G v M o s s.heap []) (hl : lv_has ls 6 [(1, .int y1)]) (hf : j_Machine_branches_50 M y1 z0 = some r) : W p l e rm_Machine_branches s m args below meth c s.heap [] 0 0 (MQ below (sm_Qi0 r) args s 0 0 (fun _ => False)) (F0 m 50 ls [.int z0]) := by
  have hx := hC.1
  have hb := hC.2.1
  unfold j_Machine_branches_50 at hf
  refine lv_istore hx hb d_Machine_branches_50 hl (Nat.le_of_ble_eq_true rfl) rfl (fun ls hl => ?_)
  have hl : lv_has ls 6 [(5, .int z0), (1, .int y1)] := hl
  refine lv_iload_n hx hb d_Machine_branches_52 rfl (lv_at hl 1 rfl) ?_
  refine lv_bipush (v := 13) hx hb d_Machine_branches_53 (by decide) ?_
  refine lv_icmp_ne hx hb d_Machine_branches_55 rfl (fun h55_13 => ?_) (fun h55_13 => ?_)
  · have hf := sm_f h55_13 hf
    refine lv_iload hx hb d_Machine_branches_63 (lv_at hl 0 rfl) ?_
    refine lv_if_ne hx hb d_Machine_branches_65 rfl (fun h65_14 => ?_) (fun h65_14 => ?_)
    · have hf := sm_f h65_14 hf
      refine lv_iconst (v := 0) hx hb d_Machine_branches_72 (by decide) ?_
      obtain rfl := Option.some.inj hf
      exact sm_zret0 hC hr rfl hlk d_Machine_branches_73
    · have hf := sm_t h65_14 hf
      refine lv_iconst (v := 1) hx hb d_Machine_branches_68 (by decide) ?_
      refine lv_goto hx hb d_Machine_branches_69 rfl ?_
      obtain rfl := Option.some.inj hf
      exact sm_zret0 hC hr rfl hlk d_Machine_branches_73
  · have hf := sm_t h55_13 hf
    refine lv_iload hx hb d_Machine_branches_58 (lv_at hl 0 rfl) ?_
    refine lv_goto hx hb d_Machine_branches_60 rfl ?_
    obtain ⟨h73_15, hf⟩ := sm_of_bo hf
    obtain rfl := Option.some.inj hf
    exact sm_zret0 hC hr (sm_nz h73_15) hlk d_Machine_branches_73
set_option maxHeartbeats 4000000 in
set_option maxRecDepth 100000 in
theorem c_Machine_branches {l : Launch} {v : sm_V} {o : sm_O} {M : sm_M} {a0 : Int32} {a1 : Int32} {r : Int32} (hf : f_Machine_branches M a0 a1 = some r) : sm_Ri l y_Machine_branches w_Machine_branches rm_Machine_branches v [.ref (sm_a v 64), .int a0, .int a1] M o r  := by
  refine sm_met (cc := b_Machine_branches) (nL := 6) (ret := some .boolean) (plainFor_of_name (by decide)) rfl (Nat.le_of_ble_eq_true rfl) (fun p e s m args below meth c hC hr hlk hK hG ls hl => ?_)
  have hx := hC.1
  have hb := hC.2.1
  have hl : lv_has ls 6 [(0, .ref (sm_a v 64)), (1, .int a0), (2, .int a1)] := hl
  unfold f_Machine_branches at hf
  refine lv_aload_n hx hb d_Machine_branches_0 rfl (lv_at hl 0 rfl) ?_
  refine gf_Machine_15 hC hK hG d_Machine_branches_1 ?_
  refine lv_iload_n hx hb d_Machine_branches_4 rfl (lv_at hl 2 rfl) ?_
  obtain ⟨r5_2, hc5_1, hf⟩ := sm_of_b1 hf
  refine ca_Machine_73 hC hK hG (c_Instr_aOf hc5_1) hl.1 ⟨Nat.le_of_ble_eq_true rfl, Nat.le_of_ble_eq_true rfl⟩ ⟨Nat.zero_le _, Nat.zero_le _⟩ (Nat.le_of_ble_eq_true rfl) d_Machine_branches_5 ?_
  obtain ⟨h8_4, hf⟩ := sm_of_gd hf
  refine sm_iald hC hK hG (by decide) rfl h8_4 d_Machine_branches_8 ?_
  refine lv_topi (fun x9_5 ex9_5 => ?_)
  have hf := sm_of ex9_5 hf
  refine lv_istore_n hx hb d_Machine_branches_9 rfl hl (Nat.le_of_ble_eq_true rfl) rfl (fun ls hl => ?_)
  have hl : lv_has ls 6 [(3, .int x9_5), (0, .ref (sm_a v 64)), (1, .int a0), (2, .int a1)] := hl
  refine lv_aload_n hx hb d_Machine_branches_10 rfl (lv_at hl 1 rfl) ?_
  refine gf_Machine_15 hC hK hG d_Machine_branches_11 ?_
  refine lv_iload_n hx hb d_Machine_branches_14 rfl (lv_at hl 3 rfl) ?_
  obtain ⟨r15_7, hc15_6, hf⟩ := sm_of_b1 hf
  refine ca_Machine_76 hC hK hG (c_Instr_bOf hc15_6) hl.1 ⟨Nat.le_of_ble_eq_true rfl, Nat.le_of_ble_eq_true rfl⟩ ⟨Nat.zero_le _, Nat.zero_le _⟩ (Nat.le_of_ble_eq_true rfl) d_Machine_branches_15 ?_
  obtain ⟨h18_9, hf⟩ := sm_of_gd hf
  refine sm_iald hC hK hG (by decide) rfl h18_9 d_Machine_branches_18 ?_
  refine lv_topi (fun x19_10 ex19_10 => ?_)
  have hf := sm_of ex19_10 hf
  refine lv_istore hx hb d_Machine_branches_19 hl (Nat.le_of_ble_eq_true rfl) rfl (fun ls hl => ?_)
  have hl : lv_has ls 6 [(4, .int x19_10), (3, .int x9_5), (0, .ref (sm_a v 64)), (1, .int a0), (2, .int a1)] := hl
  have hl : lv_has ls 6 [(4, .int x19_10), (3, .int x9_5), (1, .int a0)] := lv_sub hl [0, 1, 3] rfl
  refine lv_iload_n hx hb d_Machine_branches_21 rfl (lv_at hl 2 rfl) ?_
  refine lv_bipush (v := 15) hx hb d_Machine_branches_22 (by decide) ?_
  refine lv_icmp_ne hx hb d_Machine_branches_24 rfl (fun h24_11 => ?_) (fun h24_11 => ?_)
  · have hf := sm_f h24_11 hf
    refine lv_iload_n hx hb d_Machine_branches_39 rfl (lv_at hl 1 rfl) ?_
    refine lv_iload hx hb d_Machine_branches_40 (lv_at hl 0 rfl) ?_
    refine lv_icmp_ne hx hb d_Machine_branches_42 rfl (fun h42_12 => ?_) (fun h42_12 => ?_)
    · have hf := sm_f h42_12 hf
      refine lv_iconst (v := 0) hx hb d_Machine_branches_49 (by decide) ?_
      exact jw_Machine_branches_50 hC hr hlk hK M a0 (0 : Int32) hG (lv_sub hl [2] rfl) hf
    · have hf := sm_t h42_12 hf
      refine lv_iconst (v := 1) hx hb d_Machine_branches_45 (by decide) ?_
      refine lv_goto hx hb d_Machine_branches_46 rfl ?_
      exact jw_Machine_branches_50 hC hr hlk hK M a0 (1 : Int32) hG (lv_sub hl [2] rfl) hf
  · have hf := sm_t h24_11 hf
    refine lv_iload_n hx hb d_Machine_branches_27 rfl (lv_at hl 1 rfl) ?_
    refine lv_iload hx hb d_Machine_branches_28 (lv_at hl 0 rfl) ?_
    refine lv_icmp_ge hx hb d_Machine_branches_30 rfl (fun h30_16 => ?_) (fun h30_16 => ?_)
    · have hf := sm_t h30_16 hf
      refine lv_iconst (v := 0) hx hb d_Machine_branches_37 (by decide) ?_
      obtain rfl := Option.some.inj hf
      exact sm_zret0 hC hr rfl hlk d_Machine_branches_38
    · have hf := sm_f h30_16 hf
      refine lv_iconst (v := 1) hx hb d_Machine_branches_33 (by decide) ?_
      refine lv_goto hx hb d_Machine_branches_34 rfl ?_
      obtain rfl := Option.some.inj hf
      exact sm_zret0 hC hr rfl hlk d_Machine_branches_38
abbrev w_Machine_leave : List Cond := Cond.code y_Machine_leave b_Machine_leave 3 (none) :: sm_AW
abbrev rm_Machine_leave : Room := { frames := 1, cells := 0, slots := 0, locals := 22 }
def f_Machine_leave (M : sm_M) (a0 : Int32) (a1 : Int32) : Option (sm_M) :=
sm_b1 (f_Machine_setRegister M a0 ((M 64 8) + (4 : Int32))) fun M8_3 =>
sm_nm (sm_up M8_3 64 8 a1) fun M13_4 =>
(some M13_4)
set_option maxHeartbeats 4000000 in
set_option maxRecDepth 100000 in
theorem c_Machine_leave {l : Launch} {v : sm_V} {o : sm_O} {M : sm_M} {a0 : Int32} {a1 : Int32} {M' : sm_M} (hf : f_Machine_leave M a0 a1 = some M') : sm_Cv l y_Machine_leave w_Machine_leave rm_Machine_leave v [.ref (sm_a v 64), .int a0, .int a1] M o M' := by
  refine sm_met (cc := b_Machine_leave) (nL := 3) (ret := none) (plainFor_of_name (by decide)) rfl (Nat.le_of_ble_eq_true rfl) (fun p e s m args below meth c hC hr hlk hK hG ls hl => ?_)
  have hx := hC.1
  have hb := hC.2.1
  have hl : lv_has ls 3 [(0, .ref (sm_a v 64)), (1, .int a0), (2, .int a1)] := hl
  unfold f_Machine_leave at hf
  refine lv_aload_n hx hb d_Machine_leave_0 rfl (lv_at hl 0 rfl) ?_
  refine lv_iload_n hx hb d_Machine_leave_1 rfl (lv_at hl 1 rfl) ?_
  refine lv_aload_n hx hb d_Machine_leave_2 rfl (lv_at hl 0 rfl) ?_
  refine gf_Machine_48 hC hK hG d_Machine_leave_3 ?_
  refine lv_iconst (v := 4) hx hb d_Machine_leave_6 (by decide) ?_
  refine lv_iadd hx hb d_Machine_leave_7 ?_
  obtain ⟨M8_3, hc8_1, hf⟩ := sm_of_b1 hf
  refine ca_Machine_118 hC hK hG (c_Machine_setRegister hc8_1) hl.1 ⟨Nat.le_of_ble_eq_true rfl, Nat.le_of_ble_eq_true rfl⟩ ⟨Nat.zero_le _, Nat.zero_le _⟩ (Nat.le_of_ble_eq_true rfl) d_Machine_leave_8 (fun H locs hG => ?_)
  refine lv_aload_n hx hb d_Machine_leave_11 rfl (lv_at hl 0 rfl) ?_
  refine lv_iload_n hx hb d_Machine_leave_12 rfl (lv_at hl 2 rfl) ?_
  refine pf_Machine_48 hC hK hG d_Machine_leave_13 (fun M13_4 H locs eM13_4 hG => ?_)
  have hf := sm_of eM13_4 hf
  obtain rfl := Option.some.inj hf
  exact sm_vret hC hr hlk hG d_Machine_leave_16
abbrev w_Machine_show : List Cond := Cond.code y_Machine_show b_Machine_show 2 (none) :: sm_AW
abbrev rm_Machine_show : Room := { frames := 0, cells := 0, slots := 0, locals := 0 }
def f_Machine_show (M : sm_M) (a0 : Int32) : Option (sm_M) :=
sm_gd ((M 64 10) - (M 64 10) / (16 : Int32) * (16 : Int32)) 16 (
sm_nm (sm_up M 67 (Int32.toNatClampNeg ((M 64 10) - (M 64 10) / (16 : Int32) * (16 : Int32))) a0) fun M12_2 =>
sm_nm (sm_up M12_2 64 10 ((M12_2 64 10) + (1 : Int32))) fun M20_3 =>
sm_nm (sm_up M20_3 64 8 ((M20_3 64 8) + (4 : Int32))) fun M30_4 =>
(some M30_4))
set_option maxHeartbeats 4000000 in
set_option maxRecDepth 100000 in
theorem c_Machine_show {l : Launch} {v : sm_V} {o : sm_O} {M : sm_M} {a0 : Int32} {M' : sm_M} (hf : f_Machine_show M a0 = some M') : sm_Cv l y_Machine_show w_Machine_show rm_Machine_show v [.ref (sm_a v 64), .int a0] M o M' := by
  refine sm_met (cc := b_Machine_show) (nL := 2) (ret := none) (plainFor_of_name (by decide)) rfl (Nat.le_of_ble_eq_true rfl) (fun p e s m args below meth c hC hr hlk hK hG ls hl => ?_)
  have hx := hC.1
  have hb := hC.2.1
  have hl : lv_has ls 2 [(0, .ref (sm_a v 64)), (1, .int a0)] := hl
  unfold f_Machine_show at hf
  refine lv_aload_n hx hb d_Machine_show_0 rfl (lv_at hl 0 rfl) ?_
  refine gf_Machine_18 hC hK hG d_Machine_show_1 ?_
  refine lv_aload_n hx hb d_Machine_show_4 rfl (lv_at hl 0 rfl) ?_
  refine gf_Machine_54 hC hK hG d_Machine_show_5 ?_
  refine lv_bipush (v := 16) hx hb d_Machine_show_8 (by decide) ?_
  refine lv_irem hx hb d_Machine_show_10 (by decide) ?_
  refine lv_iload_n hx hb d_Machine_show_11 rfl (lv_at hl 1 rfl) ?_
  obtain ⟨h12_1, hf⟩ := sm_of_gd hf
  refine sm_iast hC hK hG (by decide) rfl h12_1 d_Machine_show_12 (fun M12_2 H locs eM12_2 hG => ?_)
  have hf := sm_of eM12_2 hf
  refine lv_aload_n hx hb d_Machine_show_13 rfl (lv_at hl 0 rfl) ?_
  refine lv_dup hx hb d_Machine_show_14 rfl ?_
  refine gf_Machine_54 hC hK hG d_Machine_show_15 ?_
  refine lv_iconst (v := 1) hx hb d_Machine_show_18 (by decide) ?_
  refine lv_iadd hx hb d_Machine_show_19 ?_
  refine pf_Machine_54 hC hK hG d_Machine_show_20 (fun M20_3 H locs eM20_3 hG => ?_)
  have hf := sm_of eM20_3 hf
  refine lv_aload_n hx hb d_Machine_show_23 rfl (lv_at hl 0 rfl) ?_
  refine lv_dup hx hb d_Machine_show_24 rfl ?_
  refine gf_Machine_48 hC hK hG d_Machine_show_25 ?_
  refine lv_iconst (v := 4) hx hb d_Machine_show_28 (by decide) ?_
  refine lv_iadd hx hb d_Machine_show_29 ?_
  refine pf_Machine_48 hC hK hG d_Machine_show_30 (fun M30_4 H locs eM30_4 hG => ?_)
  have hf := sm_of eM30_4 hf
  obtain rfl := Option.some.inj hf
  exact sm_vret hC hr hlk hG d_Machine_show_33
abbrev w_Machine_joined : List Cond := Cond.code y_Machine_joined b_Machine_joined 3 (some .int) :: sm_AW
abbrev rm_Machine_joined : Room := { frames := 0, cells := 0, slots := 0, locals := 0 }
def f_Machine_joined (a0 : Int32) (a1 : Int32) (a2 : Int32) : Option (Int32) :=
(if a0 = 3 then
(some (a1 + a2))
else
(if a0 = 4 then
(some (a1 - a2))
else
(if a0 = 5 then
(some (a1 &&& a2))
else
(if a0 = 6 then
(some (a1 ||| a2))
else
(if a0 = 7 then
(some (a1 ^^^ a2))
else
(if a0 = 8 then
(some (a1 <<< ((a2 &&& (31 : Int32)) &&& 31)))
else
(if a0 = 9 then
(some (a1 >>> ((a2 &&& (31 : Int32)) &&& 31)))
else
(if a2 ≤ a1 then
(some (0 : Int32))
else
(some (1 : Int32))))))))))
set_option maxHeartbeats 4000000 in
set_option maxRecDepth 100000 in
theorem c_Machine_joined {l : Launch} {v : sm_V} {o : sm_O} {M : sm_M} {a0 : Int32} {a1 : Int32} {a2 : Int32} {r : Int32} (hf : f_Machine_joined a0 a1 a2 = some r) : sm_Ri l y_Machine_joined w_Machine_joined rm_Machine_joined v [.int a0, .int a1, .int a2] M o r  := by
  refine sm_met (cc := b_Machine_joined) (nL := 3) (ret := some .int) (plainFor_of_name (by decide)) rfl (Nat.le_of_ble_eq_true rfl) (fun p e s m args below meth c hC hr hlk hK hG ls hl => ?_)
  have hx := hC.1
  have hb := hC.2.1
  have hl : lv_has ls 3 [(0, .int a0), (1, .int a1), (2, .int a2)] := hl
  unfold f_Machine_joined at hf
  refine lv_iload_n hx hb d_Machine_joined_0 rfl (lv_at hl 0 rfl) ?_
  by_cases h1_1 : a0 = 3
  · have hf := sm_t h1_1 hf
    refine lv_tableIn (tgt := 44) hx hb d_Machine_joined_1 (by rw [h1_1]; decide) (by rw [h1_1]; decide) (by rw [h1_1]; rfl) rfl ?_
    refine lv_iload_n hx hb d_Machine_joined_44 rfl (lv_at hl 1 rfl) ?_
    refine lv_iload_n hx hb d_Machine_joined_45 rfl (lv_at hl 2 rfl) ?_
    refine lv_iadd hx hb d_Machine_joined_46 ?_
    obtain rfl := Option.some.inj hf
    exact sm_iret0 hC hr hlk d_Machine_joined_47
  have hf := sm_f h1_1 hf
  by_cases h1_2 : a0 = 4
  · have hf := sm_t h1_2 hf
    refine lv_tableIn (tgt := 48) hx hb d_Machine_joined_1 (by rw [h1_2]; decide) (by rw [h1_2]; decide) (by rw [h1_2]; rfl) rfl ?_
    refine lv_iload_n hx hb d_Machine_joined_48 rfl (lv_at hl 1 rfl) ?_
    refine lv_iload_n hx hb d_Machine_joined_49 rfl (lv_at hl 2 rfl) ?_
    refine lv_isub hx hb d_Machine_joined_50 ?_
    obtain rfl := Option.some.inj hf
    exact sm_iret0 hC hr hlk d_Machine_joined_51
  have hf := sm_f h1_2 hf
  by_cases h1_3 : a0 = 5
  · have hf := sm_t h1_3 hf
    refine lv_tableIn (tgt := 52) hx hb d_Machine_joined_1 (by rw [h1_3]; decide) (by rw [h1_3]; decide) (by rw [h1_3]; rfl) rfl ?_
    refine lv_iload_n hx hb d_Machine_joined_52 rfl (lv_at hl 1 rfl) ?_
    refine lv_iload_n hx hb d_Machine_joined_53 rfl (lv_at hl 2 rfl) ?_
    refine lv_iand hx hb d_Machine_joined_54 ?_
    obtain rfl := Option.some.inj hf
    exact sm_iret0 hC hr hlk d_Machine_joined_55
  have hf := sm_f h1_3 hf
  by_cases h1_4 : a0 = 6
  · have hf := sm_t h1_4 hf
    refine lv_tableIn (tgt := 56) hx hb d_Machine_joined_1 (by rw [h1_4]; decide) (by rw [h1_4]; decide) (by rw [h1_4]; rfl) rfl ?_
    refine lv_iload_n hx hb d_Machine_joined_56 rfl (lv_at hl 1 rfl) ?_
    refine lv_iload_n hx hb d_Machine_joined_57 rfl (lv_at hl 2 rfl) ?_
    refine lv_ior hx hb d_Machine_joined_58 ?_
    obtain rfl := Option.some.inj hf
    exact sm_iret0 hC hr hlk d_Machine_joined_59
  have hf := sm_f h1_4 hf
  by_cases h1_5 : a0 = 7
  · have hf := sm_t h1_5 hf
    refine lv_tableIn (tgt := 60) hx hb d_Machine_joined_1 (by rw [h1_5]; decide) (by rw [h1_5]; decide) (by rw [h1_5]; rfl) rfl ?_
    refine lv_iload_n hx hb d_Machine_joined_60 rfl (lv_at hl 1 rfl) ?_
    refine lv_iload_n hx hb d_Machine_joined_61 rfl (lv_at hl 2 rfl) ?_
    refine lv_ixor hx hb d_Machine_joined_62 ?_
    obtain rfl := Option.some.inj hf
    exact sm_iret0 hC hr hlk d_Machine_joined_63
  have hf := sm_f h1_5 hf
  by_cases h1_6 : a0 = 8
  · have hf := sm_t h1_6 hf
    refine lv_tableIn (tgt := 64) hx hb d_Machine_joined_1 (by rw [h1_6]; decide) (by rw [h1_6]; decide) (by rw [h1_6]; rfl) rfl ?_
    refine lv_iload_n hx hb d_Machine_joined_64 rfl (lv_at hl 1 rfl) ?_
    refine lv_iload_n hx hb d_Machine_joined_65 rfl (lv_at hl 2 rfl) ?_
    refine lv_bipush (v := 31) hx hb d_Machine_joined_66 (by decide) ?_
    refine lv_iand hx hb d_Machine_joined_68 ?_
    refine lv_ishl hx hb d_Machine_joined_69 ?_
    obtain rfl := Option.some.inj hf
    exact sm_iret0 hC hr hlk d_Machine_joined_70
  have hf := sm_f h1_6 hf
  by_cases h1_7 : a0 = 9
  · have hf := sm_t h1_7 hf
    refine lv_tableIn (tgt := 71) hx hb d_Machine_joined_1 (by rw [h1_7]; decide) (by rw [h1_7]; decide) (by rw [h1_7]; rfl) rfl ?_
    refine lv_iload_n hx hb d_Machine_joined_71 rfl (lv_at hl 1 rfl) ?_
    refine lv_iload_n hx hb d_Machine_joined_72 rfl (lv_at hl 2 rfl) ?_
    refine lv_bipush (v := 31) hx hb d_Machine_joined_73 (by decide) ?_
    refine lv_iand hx hb d_Machine_joined_75 ?_
    refine lv_ishr hx hb d_Machine_joined_76 ?_
    obtain rfl := Option.some.inj hf
    exact sm_iret0 hC hr hlk d_Machine_joined_77
  have hf := sm_f h1_7 hf
  refine lv_tableOut (tgt := 78) hx hb d_Machine_joined_1 (by have := lv_neT (a := 3) h1_1 rfl; have := lv_neT (a := 4) h1_2 rfl; have := lv_neT (a := 5) h1_3 rfl; have := lv_neT (a := 6) h1_4 rfl; have := lv_neT (a := 7) h1_5 rfl; have := lv_neT (a := 8) h1_6 rfl; have := lv_neT (a := 9) h1_7 rfl; omega) rfl ?_
  refine lv_iload_n hx hb d_Machine_joined_78 rfl (lv_at hl 1 rfl) ?_
  refine lv_iload_n hx hb d_Machine_joined_79 rfl (lv_at hl 2 rfl) ?_
  refine lv_icmp_ge hx hb d_Machine_joined_80 rfl (fun h80_8 => ?_) (fun h80_8 => ?_)
  · have hf := sm_t h80_8 hf
    refine lv_iconst (v := 0) hx hb d_Machine_joined_87 (by decide) ?_
    obtain rfl := Option.some.inj hf
    exact sm_iret0 hC hr hlk d_Machine_joined_88
  · have hf := sm_f h80_8 hf
    refine lv_iconst (v := 1) hx hb d_Machine_joined_83 (by decide) ?_
    refine lv_goto hx hb d_Machine_joined_84 rfl ?_
    obtain rfl := Option.some.inj hf
    exact sm_iret0 hC hr hlk d_Machine_joined_88
theorem ca_Machine_105 {p : Program} {l : Launch} {e : Env} {R : Room} {s : State} {m : MethodId} {args : Array Value} {below : List Frame} {meth : Method} {c : Code} {H : Heap} {locs : List Loc} {cells slots : Nat} {Q : State → Prop} {cc : ByteArray} {nL pc : Nat} {ls : Array Slot} {rest : List Value} {w0 : Cond} {v : sm_V} {M : sm_M} {o : sm_O} {x0 : Int32} {r : Int32} (hC : CallFix p m c cc nL s args (w0 :: sm_AW) R_Machine) (hK : sm_K v s) (hG : sm_G v M o s H locs) (hM : sm_Ri l y_Instr_isThreeRegisters w_Instr_isThreeRegisters rm_Instr_isThreeRegisters v [.int x0] M o r) (hsz : ls.size = nL) (hR : rm_Instr_isThreeRegisters.frames + 1 ≤ R.frames ∧ 8 + (1 + 11) + rm_Instr_isThreeRegisters.locals ≤ R.locals) (hcs : cells + 0 ≤ R.cells ∧ slots + 0 ≤ R.slots) (hW : (rest.map fun v => v.category).sum ≤ 8) (hdg : decode cc pc = .ok (.invokestatic 105, 3))
    (kk : W p l e R s m args below meth c H locs cells slots Q (F0 m (pc + 3) ls (.int r :: rest))) : W p l e R s m args below meth c H locs cells slots Q (F0 m pc ls (.int x0 :: rest)) :=
  sm_calli0 (va_runSN (As := [.int x0]) (rest := rest) hC hM ⟨va_cnB 1 hC.2.2.2.2 (sm_good (sm_inC aw_302)) rfl rfl rfl (hK.2.1 _ nw_650) (hC.2.2.2.2 _ (List.mem_cons_of_mem _ aw_8)) (by decide +kernel) hR, hC.2.2.2.2 _ (List.mem_cons_of_mem _ aw_301), trivial⟩ (sm_preS hK hG) rfl rfl hsz rfl (lv_room hW) hdg hcs) kk
theorem ca_Machine_109 {p : Program} {l : Launch} {e : Env} {R : Room} {s : State} {m : MethodId} {args : Array Value} {below : List Frame} {meth : Method} {c : Code} {H : Heap} {locs : List Loc} {cells slots : Nat} {Q : State → Prop} {cc : ByteArray} {nL pc : Nat} {ls : Array Slot} {rest : List Value} {w0 : Cond} {v : sm_V} {M : sm_M} {o : sm_O} {x0 : Int32} {r : Int32} (hC : CallFix p m c cc nL s args (w0 :: sm_AW) R_Machine) (hK : sm_K v s) (hG : sm_G v M o s H locs) (hM : sm_Ri l y_Instr_registerCOf w_Instr_registerCOf rm_Instr_registerCOf v [.int x0] M o r) (hsz : ls.size = nL) (hR : rm_Instr_registerCOf.frames + 1 ≤ R.frames ∧ 8 + (1 + 11) + rm_Instr_registerCOf.locals ≤ R.locals) (hcs : cells + 0 ≤ R.cells ∧ slots + 0 ≤ R.slots) (hW : (rest.map fun v => v.category).sum ≤ 8) (hdg : decode cc pc = .ok (.invokestatic 109, 3))
    (kk : W p l e R s m args below meth c H locs cells slots Q (F0 m (pc + 3) ls (.int r :: rest))) : W p l e R s m args below meth c H locs cells slots Q (F0 m pc ls (.int x0 :: rest)) :=
  sm_calli0 (va_runS (As := [.int x0]) (rest := rest) hC hM (va_cwS 1 hC.2.2.2.2 (sm_good (sm_inT aw_651 aw_652 aw_8 aw_653)) rfl rfl rfl (by decide +kernel) hR) (sm_preS hK hG) rfl rfl hsz rfl (lv_room hW) hdg hcs) kk
theorem ca_Machine_112 {p : Program} {l : Launch} {e : Env} {R : Room} {s : State} {m : MethodId} {args : Array Value} {below : List Frame} {meth : Method} {c : Code} {H : Heap} {locs : List Loc} {cells slots : Nat} {Q : State → Prop} {cc : ByteArray} {nL pc : Nat} {ls : Array Slot} {rest : List Value} {w0 : Cond} {v : sm_V} {M : sm_M} {o : sm_O} {x0 : Int32} {x1 : Int32} {x2 : Int32} {r : Int32} (hC : CallFix p m c cc nL s args (w0 :: sm_AW) R_Machine) (hK : sm_K v s) (hG : sm_G v M o s H locs) (hM : sm_Ri l y_Machine_joined w_Machine_joined rm_Machine_joined v [.int x0, .int x1, .int x2] M o r) (hsz : ls.size = nL) (hR : rm_Machine_joined.frames + 1 ≤ R.frames ∧ 8 + (3 + 11) + rm_Machine_joined.locals ≤ R.locals) (hcs : cells + 0 ≤ R.cells ∧ slots + 0 ≤ R.slots) (hW : (rest.map fun v => v.category).sum ≤ 8) (hdg : decode cc pc = .ok (.invokestatic 112, 3))
    (kk : W p l e R s m args below meth c H locs cells slots Q (F0 m (pc + 3) ls (.int r :: rest))) : W p l e R s m args below meth c H locs cells slots Q (F0 m pc ls (.int x2 :: .int x1 :: .int x0 :: rest)) :=
  sm_calli0 (va_runS (As := [.int x0, .int x1, .int x2]) (rest := rest) hC hM (cwS 3 hC.2.2.2.2 (sm_good (sm_inS aw_654 aw_655 aw_6 aw_656)) rfl rfl rfl (by decide +kernel) hR) (sm_preS hK hG) rfl rfl hsz rfl (lv_room hW) hdg hcs) kk
abbrev w_Machine_executeRegisters : List Cond := Cond.code y_Machine_executeRegisters b_Machine_executeRegisters 5 (none) :: sm_AW
abbrev rm_Machine_executeRegisters : Room := { frames := 2, cells := 0, slots := 0, locals := 44 }
def f_Machine_executeRegisters (M : sm_M) (a0 : Int32) (a1 : Int32) : Option (sm_M) :=
sm_b1 (f_Instr_isThreeRegisters a0) fun r1_2 =>
(if r1_2 = 0 then
sm_nm (sm_up M 64 7 (3 : Int32)) fun M48_5 =>
(some M48_5)
else
sm_b1 (f_Instr_bOf a1) fun r12_7 =>
sm_gd r12_7 32 (
sm_nm (M 66 (Int32.toNatClampNeg r12_7)) fun x16_10 =>
sm_b1 (f_Instr_registerCOf a1) fun r22_12 =>
sm_gd r22_12 32 (
sm_nm (M 66 (Int32.toNatClampNeg r22_12)) fun x26_15 =>
sm_b1 (f_Instr_aOf a1) fun r30_17 =>
sm_b1 (f_Machine_joined a0 x16_10 x26_15) fun r37_20 =>
sm_b1 (f_Machine_goOnWith M r30_17 r37_20) fun M40_24 =>
(some M40_24))))
set_option maxHeartbeats 4000000 in
set_option maxRecDepth 100000 in
theorem c_Machine_executeRegisters {l : Launch} {v : sm_V} {o : sm_O} {M : sm_M} {a0 : Int32} {a1 : Int32} {M' : sm_M} (hf : f_Machine_executeRegisters M a0 a1 = some M') : sm_Cv l y_Machine_executeRegisters w_Machine_executeRegisters rm_Machine_executeRegisters v [.ref (sm_a v 64), .int a0, .int a1] M o M' := by
  refine sm_met (cc := b_Machine_executeRegisters) (nL := 5) (ret := none) (plainFor_of_name (by decide)) rfl (Nat.le_of_ble_eq_true rfl) (fun p e s m args below meth c hC hr hlk hK hG ls hl => ?_)
  have hx := hC.1
  have hb := hC.2.1
  have hl : lv_has ls 5 [(0, .ref (sm_a v 64)), (1, .int a0), (2, .int a1)] := hl
  unfold f_Machine_executeRegisters at hf
  refine lv_iload_n hx hb d_Machine_executeRegisters_0 rfl (lv_at hl 1 rfl) ?_
  obtain ⟨r1_2, hc1_1, hf⟩ := sm_of_b1 hf
  refine ca_Machine_105 hC hK hG (c_Instr_isThreeRegisters hc1_1) hl.1 ⟨Nat.le_of_ble_eq_true rfl, Nat.le_of_ble_eq_true rfl⟩ ⟨Nat.zero_le _, Nat.zero_le _⟩ (Nat.le_of_ble_eq_true rfl) d_Machine_executeRegisters_1 ?_
  refine lv_if_eq hx hb d_Machine_executeRegisters_4 rfl (fun h4_4 => ?_) (fun h4_4 => ?_)
  · have hf := sm_t h4_4 hf
    refine lv_aload_n hx hb d_Machine_executeRegisters_46 rfl (lv_at hl 0 rfl) ?_
    refine lv_iconst (v := 3) hx hb d_Machine_executeRegisters_47 (by decide) ?_
    refine pf_Machine_45 hC hK hG d_Machine_executeRegisters_48 (fun M48_5 H locs eM48_5 hG => ?_)
    have hf := sm_of eM48_5 hf
    obtain rfl := Option.some.inj hf
    exact sm_vret hC hr hlk hG d_Machine_executeRegisters_51
  · have hf := sm_f h4_4 hf
    refine lv_aload_n hx hb d_Machine_executeRegisters_7 rfl (lv_at hl 0 rfl) ?_
    refine gf_Machine_15 hC hK hG d_Machine_executeRegisters_8 ?_
    refine lv_iload_n hx hb d_Machine_executeRegisters_11 rfl (lv_at hl 2 rfl) ?_
    obtain ⟨r12_7, hc12_6, hf⟩ := sm_of_b1 hf
    refine ca_Machine_76 hC hK hG (c_Instr_bOf hc12_6) hl.1 ⟨Nat.le_of_ble_eq_true rfl, Nat.le_of_ble_eq_true rfl⟩ ⟨Nat.zero_le _, Nat.zero_le _⟩ (Nat.le_of_ble_eq_true rfl) d_Machine_executeRegisters_12 ?_
    obtain ⟨h15_9, hf⟩ := sm_of_gd hf
    refine sm_iald hC hK hG (by decide) rfl h15_9 d_Machine_executeRegisters_15 ?_
    refine lv_topi (fun x16_10 ex16_10 => ?_)
    have hf := sm_of ex16_10 hf
    refine lv_istore_n hx hb d_Machine_executeRegisters_16 rfl hl (Nat.le_of_ble_eq_true rfl) rfl (fun ls hl => ?_)
    have hl : lv_has ls 5 [(3, .int x16_10), (0, .ref (sm_a v 64)), (1, .int a0), (2, .int a1)] := hl
    refine lv_aload_n hx hb d_Machine_executeRegisters_17 rfl (lv_at hl 1 rfl) ?_
    refine gf_Machine_15 hC hK hG d_Machine_executeRegisters_18 ?_
    refine lv_iload_n hx hb d_Machine_executeRegisters_21 rfl (lv_at hl 3 rfl) ?_
    obtain ⟨r22_12, hc22_11, hf⟩ := sm_of_b1 hf
    refine ca_Machine_109 hC hK hG (c_Instr_registerCOf hc22_11) hl.1 ⟨Nat.le_of_ble_eq_true rfl, Nat.le_of_ble_eq_true rfl⟩ ⟨Nat.zero_le _, Nat.zero_le _⟩ (Nat.le_of_ble_eq_true rfl) d_Machine_executeRegisters_22 ?_
    obtain ⟨h25_14, hf⟩ := sm_of_gd hf
    refine sm_iald hC hK hG (by decide) rfl h25_14 d_Machine_executeRegisters_25 ?_
    refine lv_topi (fun x26_15 ex26_15 => ?_)
    have hf := sm_of ex26_15 hf
    refine lv_istore hx hb d_Machine_executeRegisters_26 hl (Nat.le_of_ble_eq_true rfl) rfl (fun ls hl => ?_)
    have hl : lv_has ls 5 [(4, .int x26_15), (3, .int x16_10), (0, .ref (sm_a v 64)), (1, .int a0), (2, .int a1)] := hl
    refine lv_aload_n hx hb d_Machine_executeRegisters_28 rfl (lv_at hl 2 rfl) ?_
    refine lv_iload_n hx hb d_Machine_executeRegisters_29 rfl (lv_at hl 4 rfl) ?_
    obtain ⟨r30_17, hc30_16, hf⟩ := sm_of_b1 hf
    refine ca_Machine_73 hC hK hG (c_Instr_aOf hc30_16) hl.1 ⟨Nat.le_of_ble_eq_true rfl, Nat.le_of_ble_eq_true rfl⟩ ⟨Nat.zero_le _, Nat.zero_le _⟩ (Nat.le_of_ble_eq_true rfl) d_Machine_executeRegisters_30 ?_
    refine lv_iload_n hx hb d_Machine_executeRegisters_33 rfl (lv_at hl 3 rfl) ?_
    refine lv_iload_n hx hb d_Machine_executeRegisters_34 rfl (lv_at hl 1 rfl) ?_
    refine lv_iload hx hb d_Machine_executeRegisters_35 (lv_at hl 0 rfl) ?_
    obtain ⟨r37_20, hc37_19, hf⟩ := sm_of_b1 hf
    refine ca_Machine_112 hC hK hG (c_Machine_joined hc37_19) hl.1 ⟨Nat.le_of_ble_eq_true rfl, Nat.le_of_ble_eq_true rfl⟩ ⟨Nat.zero_le _, Nat.zero_le _⟩ (Nat.le_of_ble_eq_true rfl) d_Machine_executeRegisters_37 ?_
    obtain ⟨M40_24, hc40_22, hf⟩ := sm_of_b1 hf
    refine ca_Machine_82 hC hK hG (c_Machine_goOnWith hc40_22) hl.1 ⟨Nat.le_of_ble_eq_true rfl, Nat.le_of_ble_eq_true rfl⟩ ⟨Nat.zero_le _, Nat.zero_le _⟩ (Nat.le_of_ble_eq_true rfl) d_Machine_executeRegisters_40 (fun H locs hG => ?_)
    refine lv_goto hx hb d_Machine_executeRegisters_43 rfl ?_
    obtain rfl := Option.some.inj hf
    exact sm_vret hC hr hlk hG d_Machine_executeRegisters_51
theorem ca_Machine_68 {p : Program} {l : Launch} {e : Env} {R : Room} {s : State} {m : MethodId} {args : Array Value} {below : List Frame} {meth : Method} {c : Code} {H : Heap} {locs : List Loc} {cells slots : Nat} {Q : State → Prop} {cc : ByteArray} {nL pc : Nat} {ls : Array Slot} {rest : List Value} {w0 : Cond} {v : sm_V} {M : sm_M} {o : sm_O} {x0 : Int32} {r : Int32} (hC : CallFix p m c cc nL s args (w0 :: sm_AW) R_Machine) (hK : sm_K v s) (hG : sm_G v M o s H locs) (hM : sm_Ri l y_Instr_opOf w_Instr_opOf rm_Instr_opOf v [.int x0] M o r) (hsz : ls.size = nL) (hR : rm_Instr_opOf.frames + 1 ≤ R.frames ∧ 8 + (1 + 11) + rm_Instr_opOf.locals ≤ R.locals) (hcs : cells + 0 ≤ R.cells ∧ slots + 0 ≤ R.slots) (hW : (rest.map fun v => v.category).sum ≤ 8) (hdg : decode cc pc = .ok (.invokestatic 68, 3))
    (kk : W p l e R s m args below meth c H locs cells slots Q (F0 m (pc + 3) ls (.int r :: rest))) : W p l e R s m args below meth c H locs cells slots Q (F0 m pc ls (.int x0 :: rest)) :=
  sm_calli0 (va_runS (As := [.int x0]) (rest := rest) hC hM (va_cwS 1 hC.2.2.2.2 (sm_good (sm_inT aw_601 aw_602 aw_8 aw_603)) rfl rfl rfl (by decide +kernel) hR) (sm_preS hK hG) rfl rfl hsz rfl (lv_room hW) hdg hcs) kk
theorem ca_Machine_79 {p : Program} {l : Launch} {e : Env} {R : Room} {s : State} {m : MethodId} {args : Array Value} {below : List Frame} {meth : Method} {c : Code} {H : Heap} {locs : List Loc} {cells slots : Nat} {Q : State → Prop} {cc : ByteArray} {nL pc : Nat} {ls : Array Slot} {rest : List Value} {w0 : Cond} {v : sm_V} {M : sm_M} {o : sm_O} {x0 : Int32} {r : Int32} (hC : CallFix p m c cc nL s args (w0 :: sm_AW) R_Machine) (hK : sm_K v s) (hG : sm_G v M o s H locs) (hM : sm_Ri l y_Instr_numberOf w_Instr_numberOf rm_Instr_numberOf v [.int x0] M o r) (hsz : ls.size = nL) (hR : rm_Instr_numberOf.frames + 1 ≤ R.frames ∧ 8 + (1 + 11) + rm_Instr_numberOf.locals ≤ R.locals) (hcs : cells + 0 ≤ R.cells ∧ slots + 0 ≤ R.slots) (hW : (rest.map fun v => v.category).sum ≤ 8) (hdg : decode cc pc = .ok (.invokestatic 79, 3))
    (kk : W p l e R s m args below meth c H locs cells slots Q (F0 m (pc + 3) ls (.int r :: rest))) : W p l e R s m args below meth c H locs cells slots Q (F0 m pc ls (.int x0 :: rest)) :=
  sm_calli0 (va_runS (As := [.int x0]) (rest := rest) hC hM (va_cwS 1 hC.2.2.2.2 (sm_good (sm_inT aw_610 aw_611 aw_8 aw_612)) rfl rfl rfl (by decide +kernel) hR) (sm_preS hK hG) rfl rfl hsz rfl (lv_room hW) hdg hcs) kk
theorem ca_Machine_102 {p : Program} {l : Launch} {e : Env} {R : Room} {s : State} {m : MethodId} {args : Array Value} {below : List Frame} {meth : Method} {c : Code} {H : Heap} {locs : List Loc} {cells slots : Nat} {Q : State → Prop} {cc : ByteArray} {nL pc : Nat} {ls : Array Slot} {rest : List Value} {w0 : Cond} {v : sm_V} {M : sm_M} {o : sm_O} {x0 : Int32} {x1 : Int32} {M' : sm_M} (hC : CallFix p m c cc nL s args (w0 :: sm_AW) R_Machine) (hK : sm_K v s) (hG : sm_G v M o s H locs) (hM : sm_Cv l y_Machine_executeRegisters w_Machine_executeRegisters rm_Machine_executeRegisters v [.ref (sm_a v 64), .int x0, .int x1] M o M') (hsz : ls.size = nL) (hR : rm_Machine_executeRegisters.frames + 1 ≤ R.frames ∧ 8 + (5 + 11) + rm_Machine_executeRegisters.locals ≤ R.locals) (hcs : cells + 0 ≤ R.cells ∧ slots + 0 ≤ R.slots) (hW : (rest.map fun v => v.category).sum ≤ 8) (hdg : decode cc pc = .ok (.invokevirtual 102, 3))
    (kk : ∀ (H : Heap) (locs : List Loc), sm_G v M' o s H locs → W p l e R s m args below meth c H locs cells slots Q (F0 m (pc + 3) ls (rest))) : W p l e R s m args below meth c H locs cells slots Q (F0 m pc ls (.int x1 :: .int x0 :: .ref (sm_a v 64) :: rest)) :=
  sm_callv (va_runV (C := R_Machine) (As := [.int x0, .int x1]) (rest := rest) hC hM (cwV 2 hC.2.2.2.2 (sm_good (sm_inV aw_646 aw_648 as_27 aw_6 aw_649)) rfl rfl rfl (by decide +kernel) hR) (sm_preV hK hG (by decide) rfl rfl) rfl rfl hsz rfl (lv_room hW) hdg hcs) hG kk
theorem ca_Machine_86 {p : Program} {l : Launch} {e : Env} {R : Room} {s : State} {m : MethodId} {args : Array Value} {below : List Frame} {meth : Method} {c : Code} {H : Heap} {locs : List Loc} {cells slots : Nat} {Q : State → Prop} {cc : ByteArray} {nL pc : Nat} {ls : Array Slot} {rest : List Value} {w0 : Cond} {v : sm_V} {M : sm_M} {o : sm_O} {x0 : Int32} {x1 : Int32} {M' : sm_M} (hC : CallFix p m c cc nL s args (w0 :: sm_AW) R_Machine) (hK : sm_K v s) (hG : sm_G v M o s H locs) (hM : sm_Cv l y_Machine_load w_Machine_load rm_Machine_load v [.ref (sm_a v 64), .int x0, .int x1] M o M') (hsz : ls.size = nL) (hR : rm_Machine_load.frames + 1 ≤ R.frames ∧ 8 + (4 + 11) + rm_Machine_load.locals ≤ R.locals) (hcs : cells + 0 ≤ R.cells ∧ slots + 0 ≤ R.slots) (hW : (rest.map fun v => v.category).sum ≤ 8) (hdg : decode cc pc = .ok (.invokevirtual 86, 3))
    (kk : ∀ (H : Heap) (locs : List Loc), sm_G v M' o s H locs → W p l e R s m args below meth c H locs cells slots Q (F0 m (pc + 3) ls (rest))) : W p l e R s m args below meth c H locs cells slots Q (F0 m pc ls (.int x1 :: .int x0 :: .ref (sm_a v 64) :: rest)) :=
  sm_callv (va_runV (C := R_Machine) (As := [.int x0, .int x1]) (rest := rest) hC hM (cwV 2 hC.2.2.2.2 (sm_good (sm_inV aw_622 aw_624 as_22 aw_6 aw_625)) rfl rfl rfl (by decide +kernel) hR) (sm_preV hK hG (by decide) rfl rfl) rfl rfl hsz rfl (lv_room hW) hdg hcs) hG kk
theorem ca_Machine_89 {p : Program} {l : Launch} {e : Env} {R : Room} {s : State} {m : MethodId} {args : Array Value} {below : List Frame} {meth : Method} {c : Code} {H : Heap} {locs : List Loc} {cells slots : Nat} {Q : State → Prop} {cc : ByteArray} {nL pc : Nat} {ls : Array Slot} {rest : List Value} {w0 : Cond} {v : sm_V} {M : sm_M} {o : sm_O} {x0 : Int32} {x1 : Int32} {M' : sm_M} (hC : CallFix p m c cc nL s args (w0 :: sm_AW) R_Machine) (hK : sm_K v s) (hG : sm_G v M o s H locs) (hM : sm_Cv l y_Machine_store w_Machine_store rm_Machine_store v [.ref (sm_a v 64), .int x0, .int x1] M o M') (hsz : ls.size = nL) (hR : rm_Machine_store.frames + 1 ≤ R.frames ∧ 8 + (4 + 11) + rm_Machine_store.locals ≤ R.locals) (hcs : cells + 0 ≤ R.cells ∧ slots + 0 ≤ R.slots) (hW : (rest.map fun v => v.category).sum ≤ 8) (hdg : decode cc pc = .ok (.invokevirtual 89, 3))
    (kk : ∀ (H : Heap) (locs : List Loc), sm_G v M' o s H locs → W p l e R s m args below meth c H locs cells slots Q (F0 m (pc + 3) ls (rest))) : W p l e R s m args below meth c H locs cells slots Q (F0 m pc ls (.int x1 :: .int x0 :: .ref (sm_a v 64) :: rest)) :=
  sm_callv (va_runV (C := R_Machine) (As := [.int x0, .int x1]) (rest := rest) hC hM (cwV 2 hC.2.2.2.2 (sm_good (sm_inV aw_630 aw_632 as_23 aw_6 aw_633)) rfl rfl rfl (by decide +kernel) hR) (sm_preV hK hG (by decide) rfl rfl) rfl rfl hsz rfl (lv_room hW) hdg hcs) hG kk
theorem ca_Machine_92 {p : Program} {l : Launch} {e : Env} {R : Room} {s : State} {m : MethodId} {args : Array Value} {below : List Frame} {meth : Method} {c : Code} {H : Heap} {locs : List Loc} {cells slots : Nat} {Q : State → Prop} {cc : ByteArray} {nL pc : Nat} {ls : Array Slot} {rest : List Value} {w0 : Cond} {v : sm_V} {M : sm_M} {o : sm_O} {x0 : Int32} {x1 : Int32} {r : Int32} (hC : CallFix p m c cc nL s args (w0 :: sm_AW) R_Machine) (hK : sm_K v s) (hG : sm_G v M o s H locs) (hM : sm_Ri l y_Machine_branches w_Machine_branches rm_Machine_branches v [.ref (sm_a v 64), .int x0, .int x1] M o r) (hsz : ls.size = nL) (hR : rm_Machine_branches.frames + 1 ≤ R.frames ∧ 8 + (6 + 11) + rm_Machine_branches.locals ≤ R.locals) (hcs : cells + 0 ≤ R.cells ∧ slots + 0 ≤ R.slots) (hW : (rest.map fun v => v.category).sum ≤ 8) (hdg : decode cc pc = .ok (.invokevirtual 92, 3))
    (kk : W p l e R s m args below meth c H locs cells slots Q (F0 m (pc + 3) ls (.int r :: rest))) : W p l e R s m args below meth c H locs cells slots Q (F0 m pc ls (.int x1 :: .int x0 :: .ref (sm_a v 64) :: rest)) :=
  sm_calli0 (va_runV (C := R_Machine) (As := [.int x0, .int x1]) (rest := rest) hC hM (cwV 2 hC.2.2.2.2 (sm_good (sm_inV aw_634 aw_636 as_24 aw_6 aw_637)) rfl rfl rfl (by decide +kernel) hR) (sm_preV hK hG (by decide) rfl rfl) rfl rfl hsz rfl (lv_room hW) hdg hcs) kk
theorem ca_Machine_96 {p : Program} {l : Launch} {e : Env} {R : Room} {s : State} {m : MethodId} {args : Array Value} {below : List Frame} {meth : Method} {c : Code} {H : Heap} {locs : List Loc} {cells slots : Nat} {Q : State → Prop} {cc : ByteArray} {nL pc : Nat} {ls : Array Slot} {rest : List Value} {w0 : Cond} {v : sm_V} {M : sm_M} {o : sm_O} {x0 : Int32} {x1 : Int32} {M' : sm_M} (hC : CallFix p m c cc nL s args (w0 :: sm_AW) R_Machine) (hK : sm_K v s) (hG : sm_G v M o s H locs) (hM : sm_Cv l y_Machine_leave w_Machine_leave rm_Machine_leave v [.ref (sm_a v 64), .int x0, .int x1] M o M') (hsz : ls.size = nL) (hR : rm_Machine_leave.frames + 1 ≤ R.frames ∧ 8 + (3 + 11) + rm_Machine_leave.locals ≤ R.locals) (hcs : cells + 0 ≤ R.cells ∧ slots + 0 ≤ R.slots) (hW : (rest.map fun v => v.category).sum ≤ 8) (hdg : decode cc pc = .ok (.invokevirtual 96, 3))
    (kk : ∀ (H : Heap) (locs : List Loc), sm_G v M' o s H locs → W p l e R s m args below meth c H locs cells slots Q (F0 m (pc + 3) ls (rest))) : W p l e R s m args below meth c H locs cells slots Q (F0 m pc ls (.int x1 :: .int x0 :: .ref (sm_a v 64) :: rest)) :=
  sm_callv (va_runV (C := R_Machine) (As := [.int x0, .int x1]) (rest := rest) hC hM (cwV 2 hC.2.2.2.2 (sm_good (sm_inV aw_638 aw_640 as_25 aw_6 aw_641)) rfl rfl rfl (by decide +kernel) hR) (sm_preV hK hG (by decide) rfl rfl) rfl rfl hsz rfl (lv_room hW) hdg hcs) hG kk
theorem ca_Machine_99 {p : Program} {l : Launch} {e : Env} {R : Room} {s : State} {m : MethodId} {args : Array Value} {below : List Frame} {meth : Method} {c : Code} {H : Heap} {locs : List Loc} {cells slots : Nat} {Q : State → Prop} {cc : ByteArray} {nL pc : Nat} {ls : Array Slot} {rest : List Value} {w0 : Cond} {v : sm_V} {M : sm_M} {o : sm_O} {x0 : Int32} {M' : sm_M} (hC : CallFix p m c cc nL s args (w0 :: sm_AW) R_Machine) (hK : sm_K v s) (hG : sm_G v M o s H locs) (hM : sm_Cv l y_Machine_show w_Machine_show rm_Machine_show v [.ref (sm_a v 64), .int x0] M o M') (hsz : ls.size = nL) (hR : rm_Machine_show.frames + 1 ≤ R.frames ∧ 8 + (2 + 11) + rm_Machine_show.locals ≤ R.locals) (hcs : cells + 0 ≤ R.cells ∧ slots + 0 ≤ R.slots) (hW : (rest.map fun v => v.category).sum ≤ 8) (hdg : decode cc pc = .ok (.invokevirtual 99, 3))
    (kk : ∀ (H : Heap) (locs : List Loc), sm_G v M' o s H locs → W p l e R s m args below meth c H locs cells slots Q (F0 m (pc + 3) ls (rest))) : W p l e R s m args below meth c H locs cells slots Q (F0 m pc ls (.int x0 :: .ref (sm_a v 64) :: rest)) :=
  sm_callv (va_runV (C := R_Machine) (As := [.int x0]) (rest := rest) hC hM (cwV 1 hC.2.2.2.2 (sm_good (sm_inV aw_642 aw_644 as_26 aw_6 aw_645)) rfl rfl rfl (by decide +kernel) hR) (sm_preV hK hG (by decide) rfl rfl) rfl rfl hsz rfl (lv_room hW) hdg hcs) hG kk
abbrev w_Machine_execute : List Cond := Cond.code y_Machine_execute b_Machine_execute 5 (none) :: sm_AW
abbrev rm_Machine_execute : Room := { frames := 3, cells := 0, slots := 0, locals := 69 }
def f_Machine_execute (M : sm_M) (a0 : Int32) : Option (sm_M) :=
sm_b1 (f_Instr_opOf a0) fun r1_2 =>
sm_b1 (f_Instr_aOf a0) fun r6_5 =>
sm_b1 (f_Instr_bOf a0) fun r15_8 =>
sm_gd r15_8 32 (
sm_b1 (f_Instr_numberOf a0) fun r20_12 =>
sm_nm ((M 66 (Int32.toNatClampNeg r15_8)) + r20_12) fun x24_14 =>
(if r1_2 = 0 then
sm_nm (sm_up M 64 7 (2 : Int32)) fun M118_16 =>
(some M118_16)
else
(if r1_2 = 1 then
sm_b1 (f_Instr_numberOf a0) fun r127_19 =>
sm_b1 (f_Machine_goOnWith M r6_5 (r127_19 * (4096 : Int32))) fun M134_23 =>
(some M134_23)
else
(if r1_2 = 2 then
sm_b1 (f_Machine_goOnWith M r6_5 x24_14) fun M144_27 =>
(some M144_27)
else
(if r1_2 = 3 then
sm_b1 (f_Machine_executeRegisters M r1_2 a0) fun M246_31 =>
(some M246_31)
else
(if r1_2 = 4 then
sm_b1 (f_Machine_executeRegisters M r1_2 a0) fun M246_35 =>
(some M246_35)
else
(if r1_2 = 5 then
sm_b1 (f_Machine_executeRegisters M r1_2 a0) fun M246_39 =>
(some M246_39)
else
(if r1_2 = 6 then
sm_b1 (f_Machine_executeRegisters M r1_2 a0) fun M246_43 =>
(some M246_43)
else
(if r1_2 = 7 then
sm_b1 (f_Machine_executeRegisters M r1_2 a0) fun M246_47 =>
(some M246_47)
else
(if r1_2 = 8 then
sm_b1 (f_Machine_executeRegisters M r1_2 a0) fun M246_51 =>
(some M246_51)
else
(if r1_2 = 9 then
sm_b1 (f_Machine_executeRegisters M r1_2 a0) fun M246_55 =>
(some M246_55)
else
(if r1_2 = 10 then
sm_b1 (f_Machine_executeRegisters M r1_2 a0) fun M246_59 =>
(some M246_59)
else
(if r1_2 = 11 then
sm_b1 (f_Machine_load M r6_5 x24_14) fun M154_63 =>
(some M154_63)
else
(if r1_2 = 12 then
sm_b1 (f_Machine_store M r6_5 x24_14) fun M164_67 =>
(some M164_67)
else
(if r1_2 = 13 then
sm_b1 (f_Machine_branches M r1_2 a0) fun r178_70 =>
(if r178_70 = 0 then
sm_nm (sm_up M 64 8 ((M 64 8) + (4 : Int32))) fun M195_73 =>
(some M195_73)
else
sm_b1 (f_Instr_numberOf a0) fun r186_75 =>
sm_nm (sm_up M 64 8 ((M 64 8) + ((2 : Int32) * r186_75))) fun M195_77 =>
(some M195_77))
else
(if r1_2 = 14 then
sm_b1 (f_Machine_branches M r1_2 a0) fun r178_80 =>
(if r178_80 = 0 then
sm_nm (sm_up M 64 8 ((M 64 8) + (4 : Int32))) fun M195_83 =>
(some M195_83)
else
sm_b1 (f_Instr_numberOf a0) fun r186_85 =>
sm_nm (sm_up M 64 8 ((M 64 8) + ((2 : Int32) * r186_85))) fun M195_87 =>
(some M195_87))
else
(if r1_2 = 15 then
sm_b1 (f_Machine_branches M r1_2 a0) fun r178_90 =>
(if r178_90 = 0 then
sm_nm (sm_up M 64 8 ((M 64 8) + (4 : Int32))) fun M195_93 =>
(some M195_93)
else
sm_b1 (f_Instr_numberOf a0) fun r186_95 =>
sm_nm (sm_up M 64 8 ((M 64 8) + ((2 : Int32) * r186_95))) fun M195_97 =>
(some M195_97))
else
(if r1_2 = 16 then
sm_b1 (f_Instr_numberOf a0) fun r209_100 =>
sm_b1 (f_Machine_leave M r6_5 ((M 64 8) + ((2 : Int32) * r209_100))) fun M214_104 =>
(some M214_104)
else
(if r1_2 = 17 then
sm_b1 (f_Machine_leave M r6_5 x24_14) fun M224_108 =>
(some M224_108)
else
(if r1_2 = 18 then
sm_gd r6_5 32 (
sm_b1 (f_Machine_show M (M 66 (Int32.toNatClampNeg r6_5))) fun M237_113 =>
(some M237_113))
else
sm_b1 (f_Machine_executeRegisters M r1_2 a0) fun M246_116 =>
(some M246_116)))))))))))))))))))))
set_option maxHeartbeats 4000000 in
set_option maxRecDepth 100000 in
theorem c_Machine_execute {l : Launch} {v : sm_V} {o : sm_O} {M : sm_M} {a0 : Int32} {M' : sm_M} (hf : f_Machine_execute M a0 = some M') : sm_Cv l y_Machine_execute w_Machine_execute rm_Machine_execute v [.ref (sm_a v 64), .int a0] M o M' := by
  refine sm_met (cc := b_Machine_execute) (nL := 5) (ret := none) (plainFor_of_name (by decide)) rfl (Nat.le_of_ble_eq_true rfl) (fun p e s m args below meth c hC hr hlk hK hG ls hl => ?_)
  have hx := hC.1
  have hb := hC.2.1
  have hl : lv_has ls 5 [(0, .ref (sm_a v 64)), (1, .int a0)] := hl
  unfold f_Machine_execute at hf
  refine lv_iload_n hx hb d_Machine_execute_0 rfl (lv_at hl 1 rfl) ?_
  obtain ⟨r1_2, hc1_1, hf⟩ := sm_of_b1 hf
  refine ca_Machine_68 hC hK hG (c_Instr_opOf hc1_1) hl.1 ⟨Nat.le_of_ble_eq_true rfl, Nat.le_of_ble_eq_true rfl⟩ ⟨Nat.zero_le _, Nat.zero_le _⟩ (Nat.le_of_ble_eq_true rfl) d_Machine_execute_1 ?_
  refine lv_istore_n hx hb d_Machine_execute_4 rfl hl (Nat.le_of_ble_eq_true rfl) rfl (fun ls hl => ?_)
  have hl : lv_has ls 5 [(2, .int r1_2), (0, .ref (sm_a v 64)), (1, .int a0)] := hl
  refine lv_iload_n hx hb d_Machine_execute_5 rfl (lv_at hl 2 rfl) ?_
  obtain ⟨r6_5, hc6_4, hf⟩ := sm_of_b1 hf
  refine ca_Machine_73 hC hK hG (c_Instr_aOf hc6_4) hl.1 ⟨Nat.le_of_ble_eq_true rfl, Nat.le_of_ble_eq_true rfl⟩ ⟨Nat.zero_le _, Nat.zero_le _⟩ (Nat.le_of_ble_eq_true rfl) d_Machine_execute_6 ?_
  refine lv_istore_n hx hb d_Machine_execute_9 rfl hl (Nat.le_of_ble_eq_true rfl) rfl (fun ls hl => ?_)
  have hl : lv_has ls 5 [(3, .int r6_5), (2, .int r1_2), (0, .ref (sm_a v 64)), (1, .int a0)] := hl
  refine lv_aload_n hx hb d_Machine_execute_10 rfl (lv_at hl 2 rfl) ?_
  refine gf_Machine_15 hC hK hG d_Machine_execute_11 ?_
  refine lv_iload_n hx hb d_Machine_execute_14 rfl (lv_at hl 3 rfl) ?_
  obtain ⟨r15_8, hc15_7, hf⟩ := sm_of_b1 hf
  refine ca_Machine_76 hC hK hG (c_Instr_bOf hc15_7) hl.1 ⟨Nat.le_of_ble_eq_true rfl, Nat.le_of_ble_eq_true rfl⟩ ⟨Nat.zero_le _, Nat.zero_le _⟩ (Nat.le_of_ble_eq_true rfl) d_Machine_execute_15 ?_
  obtain ⟨h18_10, hf⟩ := sm_of_gd hf
  refine sm_iald hC hK hG (by decide) rfl h18_10 d_Machine_execute_18 ?_
  refine lv_iload_n hx hb d_Machine_execute_19 rfl (lv_at hl 3 rfl) ?_
  obtain ⟨r20_12, hc20_11, hf⟩ := sm_of_b1 hf
  refine ca_Machine_79 hC hK hG (c_Instr_numberOf hc20_11) hl.1 ⟨Nat.le_of_ble_eq_true rfl, Nat.le_of_ble_eq_true rfl⟩ ⟨Nat.zero_le _, Nat.zero_le _⟩ (Nat.le_of_ble_eq_true rfl) d_Machine_execute_20 ?_
  refine lv_iadd hx hb d_Machine_execute_23 ?_
  refine lv_topi (fun x24_14 ex24_14 => ?_)
  have hf := sm_of ex24_14 hf
  refine lv_istore hx hb d_Machine_execute_24 hl (Nat.le_of_ble_eq_true rfl) rfl (fun ls hl => ?_)
  have hl : lv_has ls 5 [(4, .int x24_14), (3, .int r6_5), (2, .int r1_2), (0, .ref (sm_a v 64)), (1, .int a0)] := hl
  refine lv_iload_n hx hb d_Machine_execute_26 rfl (lv_at hl 2 rfl) ?_
  by_cases h27_15 : r1_2 = 0
  · have hf := sm_t h27_15 hf
    refine lv_tableIn (tgt := 116) hx hb d_Machine_execute_27 (by rw [h27_15]; decide) (by rw [h27_15]; decide) (by rw [h27_15]; rfl) rfl ?_
    refine lv_aload_n hx hb d_Machine_execute_116 rfl (lv_at hl 3 rfl) ?_
    refine lv_iconst (v := 2) hx hb d_Machine_execute_117 (by decide) ?_
    refine pf_Machine_45 hC hK hG d_Machine_execute_118 (fun M118_16 H locs eM118_16 hG => ?_)
    have hf := sm_of eM118_16 hf
    refine lv_goto hx hb d_Machine_execute_121 rfl ?_
    obtain rfl := Option.some.inj hf
    exact sm_vret hC hr hlk hG d_Machine_execute_249
  have hf := sm_f h27_15 hf
  by_cases h27_17 : r1_2 = 1
  · have hf := sm_t h27_17 hf
    refine lv_tableIn (tgt := 124) hx hb d_Machine_execute_27 (by rw [h27_17]; decide) (by rw [h27_17]; decide) (by rw [h27_17]; rfl) rfl ?_
    refine lv_aload_n hx hb d_Machine_execute_124 rfl (lv_at hl 3 rfl) ?_
    refine lv_iload_n hx hb d_Machine_execute_125 rfl (lv_at hl 1 rfl) ?_
    refine lv_iload_n hx hb d_Machine_execute_126 rfl (lv_at hl 4 rfl) ?_
    obtain ⟨r127_19, hc127_18, hf⟩ := sm_of_b1 hf
    refine ca_Machine_79 hC hK hG (c_Instr_numberOf hc127_18) hl.1 ⟨Nat.le_of_ble_eq_true rfl, Nat.le_of_ble_eq_true rfl⟩ ⟨Nat.zero_le _, Nat.zero_le _⟩ (Nat.le_of_ble_eq_true rfl) d_Machine_execute_127 ?_
    refine lv_sipush (v := 4096) hx hb d_Machine_execute_130 (by decide) ?_
    refine lv_imul hx hb d_Machine_execute_133 ?_
    obtain ⟨M134_23, hc134_21, hf⟩ := sm_of_b1 hf
    refine ca_Machine_82 hC hK hG (c_Machine_goOnWith hc134_21) hl.1 ⟨Nat.le_of_ble_eq_true rfl, Nat.le_of_ble_eq_true rfl⟩ ⟨Nat.zero_le _, Nat.zero_le _⟩ (Nat.le_of_ble_eq_true rfl) d_Machine_execute_134 (fun H locs hG => ?_)
    refine lv_goto hx hb d_Machine_execute_137 rfl ?_
    obtain rfl := Option.some.inj hf
    exact sm_vret hC hr hlk hG d_Machine_execute_249
  have hf := sm_f h27_17 hf
  by_cases h27_24 : r1_2 = 2
  · have hf := sm_t h27_24 hf
    refine lv_tableIn (tgt := 140) hx hb d_Machine_execute_27 (by rw [h27_24]; decide) (by rw [h27_24]; decide) (by rw [h27_24]; rfl) rfl ?_
    refine lv_aload_n hx hb d_Machine_execute_140 rfl (lv_at hl 3 rfl) ?_
    refine lv_iload_n hx hb d_Machine_execute_141 rfl (lv_at hl 1 rfl) ?_
    refine lv_iload hx hb d_Machine_execute_142 (lv_at hl 0 rfl) ?_
    obtain ⟨M144_27, hc144_25, hf⟩ := sm_of_b1 hf
    refine ca_Machine_82 hC hK hG (c_Machine_goOnWith hc144_25) hl.1 ⟨Nat.le_of_ble_eq_true rfl, Nat.le_of_ble_eq_true rfl⟩ ⟨Nat.zero_le _, Nat.zero_le _⟩ (Nat.le_of_ble_eq_true rfl) d_Machine_execute_144 (fun H locs hG => ?_)
    refine lv_goto hx hb d_Machine_execute_147 rfl ?_
    obtain rfl := Option.some.inj hf
    exact sm_vret hC hr hlk hG d_Machine_execute_249
  have hf := sm_f h27_24 hf
  by_cases h27_28 : r1_2 = 3
  · have hf := sm_t h27_28 hf
    refine lv_tableIn (tgt := 243) hx hb d_Machine_execute_27 (by rw [h27_28]; decide) (by rw [h27_28]; decide) (by rw [h27_28]; rfl) rfl ?_
    refine lv_aload_n hx hb d_Machine_execute_243 rfl (lv_at hl 3 rfl) ?_
    refine lv_iload_n hx hb d_Machine_execute_244 rfl (lv_at hl 2 rfl) ?_
    refine lv_iload_n hx hb d_Machine_execute_245 rfl (lv_at hl 4 rfl) ?_
    obtain ⟨M246_31, hc246_29, hf⟩ := sm_of_b1 hf
    refine ca_Machine_102 hC hK hG (c_Machine_executeRegisters hc246_29) hl.1 ⟨Nat.le_of_ble_eq_true rfl, Nat.le_of_ble_eq_true rfl⟩ ⟨Nat.zero_le _, Nat.zero_le _⟩ (Nat.le_of_ble_eq_true rfl) d_Machine_execute_246 (fun H locs hG => ?_)
    obtain rfl := Option.some.inj hf
    exact sm_vret hC hr hlk hG d_Machine_execute_249
  have hf := sm_f h27_28 hf
  by_cases h27_32 : r1_2 = 4
  · have hf := sm_t h27_32 hf
    refine lv_tableIn (tgt := 243) hx hb d_Machine_execute_27 (by rw [h27_32]; decide) (by rw [h27_32]; decide) (by rw [h27_32]; rfl) rfl ?_
    refine lv_aload_n hx hb d_Machine_execute_243 rfl (lv_at hl 3 rfl) ?_
    refine lv_iload_n hx hb d_Machine_execute_244 rfl (lv_at hl 2 rfl) ?_
    refine lv_iload_n hx hb d_Machine_execute_245 rfl (lv_at hl 4 rfl) ?_
    obtain ⟨M246_35, hc246_33, hf⟩ := sm_of_b1 hf
    refine ca_Machine_102 hC hK hG (c_Machine_executeRegisters hc246_33) hl.1 ⟨Nat.le_of_ble_eq_true rfl, Nat.le_of_ble_eq_true rfl⟩ ⟨Nat.zero_le _, Nat.zero_le _⟩ (Nat.le_of_ble_eq_true rfl) d_Machine_execute_246 (fun H locs hG => ?_)
    obtain rfl := Option.some.inj hf
    exact sm_vret hC hr hlk hG d_Machine_execute_249
  have hf := sm_f h27_32 hf
  by_cases h27_36 : r1_2 = 5
  · have hf := sm_t h27_36 hf
    refine lv_tableIn (tgt := 243) hx hb d_Machine_execute_27 (by rw [h27_36]; decide) (by rw [h27_36]; decide) (by rw [h27_36]; rfl) rfl ?_
    refine lv_aload_n hx hb d_Machine_execute_243 rfl (lv_at hl 3 rfl) ?_
    refine lv_iload_n hx hb d_Machine_execute_244 rfl (lv_at hl 2 rfl) ?_
    refine lv_iload_n hx hb d_Machine_execute_245 rfl (lv_at hl 4 rfl) ?_
    obtain ⟨M246_39, hc246_37, hf⟩ := sm_of_b1 hf
    refine ca_Machine_102 hC hK hG (c_Machine_executeRegisters hc246_37) hl.1 ⟨Nat.le_of_ble_eq_true rfl, Nat.le_of_ble_eq_true rfl⟩ ⟨Nat.zero_le _, Nat.zero_le _⟩ (Nat.le_of_ble_eq_true rfl) d_Machine_execute_246 (fun H locs hG => ?_)
    obtain rfl := Option.some.inj hf
    exact sm_vret hC hr hlk hG d_Machine_execute_249
  have hf := sm_f h27_36 hf
  by_cases h27_40 : r1_2 = 6
  · have hf := sm_t h27_40 hf
    refine lv_tableIn (tgt := 243) hx hb d_Machine_execute_27 (by rw [h27_40]; decide) (by rw [h27_40]; decide) (by rw [h27_40]; rfl) rfl ?_
    refine lv_aload_n hx hb d_Machine_execute_243 rfl (lv_at hl 3 rfl) ?_
    refine lv_iload_n hx hb d_Machine_execute_244 rfl (lv_at hl 2 rfl) ?_
    refine lv_iload_n hx hb d_Machine_execute_245 rfl (lv_at hl 4 rfl) ?_
    obtain ⟨M246_43, hc246_41, hf⟩ := sm_of_b1 hf
    refine ca_Machine_102 hC hK hG (c_Machine_executeRegisters hc246_41) hl.1 ⟨Nat.le_of_ble_eq_true rfl, Nat.le_of_ble_eq_true rfl⟩ ⟨Nat.zero_le _, Nat.zero_le _⟩ (Nat.le_of_ble_eq_true rfl) d_Machine_execute_246 (fun H locs hG => ?_)
    obtain rfl := Option.some.inj hf
    exact sm_vret hC hr hlk hG d_Machine_execute_249
  have hf := sm_f h27_40 hf
  by_cases h27_44 : r1_2 = 7
  · have hf := sm_t h27_44 hf
    refine lv_tableIn (tgt := 243) hx hb d_Machine_execute_27 (by rw [h27_44]; decide) (by rw [h27_44]; decide) (by rw [h27_44]; rfl) rfl ?_
    refine lv_aload_n hx hb d_Machine_execute_243 rfl (lv_at hl 3 rfl) ?_
    refine lv_iload_n hx hb d_Machine_execute_244 rfl (lv_at hl 2 rfl) ?_
    refine lv_iload_n hx hb d_Machine_execute_245 rfl (lv_at hl 4 rfl) ?_
    obtain ⟨M246_47, hc246_45, hf⟩ := sm_of_b1 hf
    refine ca_Machine_102 hC hK hG (c_Machine_executeRegisters hc246_45) hl.1 ⟨Nat.le_of_ble_eq_true rfl, Nat.le_of_ble_eq_true rfl⟩ ⟨Nat.zero_le _, Nat.zero_le _⟩ (Nat.le_of_ble_eq_true rfl) d_Machine_execute_246 (fun H locs hG => ?_)
    obtain rfl := Option.some.inj hf
    exact sm_vret hC hr hlk hG d_Machine_execute_249
  have hf := sm_f h27_44 hf
  by_cases h27_48 : r1_2 = 8
  · have hf := sm_t h27_48 hf
    refine lv_tableIn (tgt := 243) hx hb d_Machine_execute_27 (by rw [h27_48]; decide) (by rw [h27_48]; decide) (by rw [h27_48]; rfl) rfl ?_
    refine lv_aload_n hx hb d_Machine_execute_243 rfl (lv_at hl 3 rfl) ?_
    refine lv_iload_n hx hb d_Machine_execute_244 rfl (lv_at hl 2 rfl) ?_
    refine lv_iload_n hx hb d_Machine_execute_245 rfl (lv_at hl 4 rfl) ?_
    obtain ⟨M246_51, hc246_49, hf⟩ := sm_of_b1 hf
    refine ca_Machine_102 hC hK hG (c_Machine_executeRegisters hc246_49) hl.1 ⟨Nat.le_of_ble_eq_true rfl, Nat.le_of_ble_eq_true rfl⟩ ⟨Nat.zero_le _, Nat.zero_le _⟩ (Nat.le_of_ble_eq_true rfl) d_Machine_execute_246 (fun H locs hG => ?_)
    obtain rfl := Option.some.inj hf
    exact sm_vret hC hr hlk hG d_Machine_execute_249
  have hf := sm_f h27_48 hf
  by_cases h27_52 : r1_2 = 9
  · have hf := sm_t h27_52 hf
    refine lv_tableIn (tgt := 243) hx hb d_Machine_execute_27 (by rw [h27_52]; decide) (by rw [h27_52]; decide) (by rw [h27_52]; rfl) rfl ?_
    refine lv_aload_n hx hb d_Machine_execute_243 rfl (lv_at hl 3 rfl) ?_
    refine lv_iload_n hx hb d_Machine_execute_244 rfl (lv_at hl 2 rfl) ?_
    refine lv_iload_n hx hb d_Machine_execute_245 rfl (lv_at hl 4 rfl) ?_
    obtain ⟨M246_55, hc246_53, hf⟩ := sm_of_b1 hf
    refine ca_Machine_102 hC hK hG (c_Machine_executeRegisters hc246_53) hl.1 ⟨Nat.le_of_ble_eq_true rfl, Nat.le_of_ble_eq_true rfl⟩ ⟨Nat.zero_le _, Nat.zero_le _⟩ (Nat.le_of_ble_eq_true rfl) d_Machine_execute_246 (fun H locs hG => ?_)
    obtain rfl := Option.some.inj hf
    exact sm_vret hC hr hlk hG d_Machine_execute_249
  have hf := sm_f h27_52 hf
  by_cases h27_56 : r1_2 = 10
  · have hf := sm_t h27_56 hf
    refine lv_tableIn (tgt := 243) hx hb d_Machine_execute_27 (by rw [h27_56]; decide) (by rw [h27_56]; decide) (by rw [h27_56]; rfl) rfl ?_
    refine lv_aload_n hx hb d_Machine_execute_243 rfl (lv_at hl 3 rfl) ?_
    refine lv_iload_n hx hb d_Machine_execute_244 rfl (lv_at hl 2 rfl) ?_
    refine lv_iload_n hx hb d_Machine_execute_245 rfl (lv_at hl 4 rfl) ?_
    obtain ⟨M246_59, hc246_57, hf⟩ := sm_of_b1 hf
    refine ca_Machine_102 hC hK hG (c_Machine_executeRegisters hc246_57) hl.1 ⟨Nat.le_of_ble_eq_true rfl, Nat.le_of_ble_eq_true rfl⟩ ⟨Nat.zero_le _, Nat.zero_le _⟩ (Nat.le_of_ble_eq_true rfl) d_Machine_execute_246 (fun H locs hG => ?_)
    obtain rfl := Option.some.inj hf
    exact sm_vret hC hr hlk hG d_Machine_execute_249
  have hf := sm_f h27_56 hf
  by_cases h27_60 : r1_2 = 11
  · have hf := sm_t h27_60 hf
    refine lv_tableIn (tgt := 150) hx hb d_Machine_execute_27 (by rw [h27_60]; decide) (by rw [h27_60]; decide) (by rw [h27_60]; rfl) rfl ?_
    refine lv_aload_n hx hb d_Machine_execute_150 rfl (lv_at hl 3 rfl) ?_
    refine lv_iload_n hx hb d_Machine_execute_151 rfl (lv_at hl 1 rfl) ?_
    refine lv_iload hx hb d_Machine_execute_152 (lv_at hl 0 rfl) ?_
    obtain ⟨M154_63, hc154_61, hf⟩ := sm_of_b1 hf
    refine ca_Machine_86 hC hK hG (c_Machine_load hc154_61) hl.1 ⟨Nat.le_of_ble_eq_true rfl, Nat.le_of_ble_eq_true rfl⟩ ⟨Nat.zero_le _, Nat.zero_le _⟩ (Nat.le_of_ble_eq_true rfl) d_Machine_execute_154 (fun H locs hG => ?_)
    refine lv_goto hx hb d_Machine_execute_157 rfl ?_
    obtain rfl := Option.some.inj hf
    exact sm_vret hC hr hlk hG d_Machine_execute_249
  have hf := sm_f h27_60 hf
  by_cases h27_64 : r1_2 = 12
  · have hf := sm_t h27_64 hf
    refine lv_tableIn (tgt := 160) hx hb d_Machine_execute_27 (by rw [h27_64]; decide) (by rw [h27_64]; decide) (by rw [h27_64]; rfl) rfl ?_
    refine lv_aload_n hx hb d_Machine_execute_160 rfl (lv_at hl 3 rfl) ?_
    refine lv_iload_n hx hb d_Machine_execute_161 rfl (lv_at hl 1 rfl) ?_
    refine lv_iload hx hb d_Machine_execute_162 (lv_at hl 0 rfl) ?_
    obtain ⟨M164_67, hc164_65, hf⟩ := sm_of_b1 hf
    refine ca_Machine_89 hC hK hG (c_Machine_store hc164_65) hl.1 ⟨Nat.le_of_ble_eq_true rfl, Nat.le_of_ble_eq_true rfl⟩ ⟨Nat.zero_le _, Nat.zero_le _⟩ (Nat.le_of_ble_eq_true rfl) d_Machine_execute_164 (fun H locs hG => ?_)
    refine lv_goto hx hb d_Machine_execute_167 rfl ?_
    obtain rfl := Option.some.inj hf
    exact sm_vret hC hr hlk hG d_Machine_execute_249
  have hf := sm_f h27_64 hf
  by_cases h27_68 : r1_2 = 13
  · have hf := sm_t h27_68 hf
    refine lv_tableIn (tgt := 170) hx hb d_Machine_execute_27 (by rw [h27_68]; decide) (by rw [h27_68]; decide) (by rw [h27_68]; rfl) rfl ?_
    refine lv_aload_n hx hb d_Machine_execute_170 rfl (lv_at hl 3 rfl) ?_
    refine lv_dup hx hb d_Machine_execute_171 rfl ?_
    refine gf_Machine_48 hC hK hG d_Machine_execute_172 ?_
    refine lv_aload_n hx hb d_Machine_execute_175 rfl (lv_at hl 3 rfl) ?_
    refine lv_iload_n hx hb d_Machine_execute_176 rfl (lv_at hl 2 rfl) ?_
    refine lv_iload_n hx hb d_Machine_execute_177 rfl (lv_at hl 4 rfl) ?_
    obtain ⟨r178_70, hc178_69, hf⟩ := sm_of_b1 hf
    refine ca_Machine_92 hC hK hG (c_Machine_branches hc178_69) hl.1 ⟨Nat.le_of_ble_eq_true rfl, Nat.le_of_ble_eq_true rfl⟩ ⟨Nat.zero_le _, Nat.zero_le _⟩ (Nat.le_of_ble_eq_true rfl) d_Machine_execute_178 ?_
    refine lv_if_eq hx hb d_Machine_execute_181 rfl (fun h181_72 => ?_) (fun h181_72 => ?_)
    · have hf := sm_t h181_72 hf
      refine lv_iconst (v := 4) hx hb d_Machine_execute_193 (by decide) ?_
      refine lv_iadd hx hb d_Machine_execute_194 ?_
      refine pf_Machine_48 hC hK hG d_Machine_execute_195 (fun M195_73 H locs eM195_73 hG => ?_)
      have hf := sm_of eM195_73 hf
      refine lv_goto hx hb d_Machine_execute_198 rfl ?_
      obtain rfl := Option.some.inj hf
      exact sm_vret hC hr hlk hG d_Machine_execute_249
    · have hf := sm_f h181_72 hf
      refine lv_iconst (v := 2) hx hb d_Machine_execute_184 (by decide) ?_
      refine lv_iload_n hx hb d_Machine_execute_185 rfl (lv_at hl 4 rfl) ?_
      obtain ⟨r186_75, hc186_74, hf⟩ := sm_of_b1 hf
      refine ca_Machine_79 hC hK hG (c_Instr_numberOf hc186_74) hl.1 ⟨Nat.le_of_ble_eq_true rfl, Nat.le_of_ble_eq_true rfl⟩ ⟨Nat.zero_le _, Nat.zero_le _⟩ (Nat.le_of_ble_eq_true rfl) d_Machine_execute_186 ?_
      refine lv_imul hx hb d_Machine_execute_189 ?_
      refine lv_goto hx hb d_Machine_execute_190 rfl ?_
      refine lv_iadd hx hb d_Machine_execute_194 ?_
      refine pf_Machine_48 hC hK hG d_Machine_execute_195 (fun M195_77 H locs eM195_77 hG => ?_)
      have hf := sm_of eM195_77 hf
      refine lv_goto hx hb d_Machine_execute_198 rfl ?_
      obtain rfl := Option.some.inj hf
      exact sm_vret hC hr hlk hG d_Machine_execute_249
  have hf := sm_f h27_68 hf
  by_cases h27_78 : r1_2 = 14
  · have hf := sm_t h27_78 hf
    refine lv_tableIn (tgt := 170) hx hb d_Machine_execute_27 (by rw [h27_78]; decide) (by rw [h27_78]; decide) (by rw [h27_78]; rfl) rfl ?_
    refine lv_aload_n hx hb d_Machine_execute_170 rfl (lv_at hl 3 rfl) ?_
    refine lv_dup hx hb d_Machine_execute_171 rfl ?_
    refine gf_Machine_48 hC hK hG d_Machine_execute_172 ?_
    refine lv_aload_n hx hb d_Machine_execute_175 rfl (lv_at hl 3 rfl) ?_
    refine lv_iload_n hx hb d_Machine_execute_176 rfl (lv_at hl 2 rfl) ?_
    refine lv_iload_n hx hb d_Machine_execute_177 rfl (lv_at hl 4 rfl) ?_
    obtain ⟨r178_80, hc178_79, hf⟩ := sm_of_b1 hf
    refine ca_Machine_92 hC hK hG (c_Machine_branches hc178_79) hl.1 ⟨Nat.le_of_ble_eq_true rfl, Nat.le_of_ble_eq_true rfl⟩ ⟨Nat.zero_le _, Nat.zero_le _⟩ (Nat.le_of_ble_eq_true rfl) d_Machine_execute_178 ?_
    refine lv_if_eq hx hb d_Machine_execute_181 rfl (fun h181_82 => ?_) (fun h181_82 => ?_)
    · have hf := sm_t h181_82 hf
      refine lv_iconst (v := 4) hx hb d_Machine_execute_193 (by decide) ?_
      refine lv_iadd hx hb d_Machine_execute_194 ?_
      refine pf_Machine_48 hC hK hG d_Machine_execute_195 (fun M195_83 H locs eM195_83 hG => ?_)
      have hf := sm_of eM195_83 hf
      refine lv_goto hx hb d_Machine_execute_198 rfl ?_
      obtain rfl := Option.some.inj hf
      exact sm_vret hC hr hlk hG d_Machine_execute_249
    · have hf := sm_f h181_82 hf
      refine lv_iconst (v := 2) hx hb d_Machine_execute_184 (by decide) ?_
      refine lv_iload_n hx hb d_Machine_execute_185 rfl (lv_at hl 4 rfl) ?_
      obtain ⟨r186_85, hc186_84, hf⟩ := sm_of_b1 hf
      refine ca_Machine_79 hC hK hG (c_Instr_numberOf hc186_84) hl.1 ⟨Nat.le_of_ble_eq_true rfl, Nat.le_of_ble_eq_true rfl⟩ ⟨Nat.zero_le _, Nat.zero_le _⟩ (Nat.le_of_ble_eq_true rfl) d_Machine_execute_186 ?_
      refine lv_imul hx hb d_Machine_execute_189 ?_
      refine lv_goto hx hb d_Machine_execute_190 rfl ?_
      refine lv_iadd hx hb d_Machine_execute_194 ?_
      refine pf_Machine_48 hC hK hG d_Machine_execute_195 (fun M195_87 H locs eM195_87 hG => ?_)
      have hf := sm_of eM195_87 hf
      refine lv_goto hx hb d_Machine_execute_198 rfl ?_
      obtain rfl := Option.some.inj hf
      exact sm_vret hC hr hlk hG d_Machine_execute_249
  have hf := sm_f h27_78 hf
  by_cases h27_88 : r1_2 = 15
  · have hf := sm_t h27_88 hf
    refine lv_tableIn (tgt := 170) hx hb d_Machine_execute_27 (by rw [h27_88]; decide) (by rw [h27_88]; decide) (by rw [h27_88]; rfl) rfl ?_
    refine lv_aload_n hx hb d_Machine_execute_170 rfl (lv_at hl 3 rfl) ?_
    refine lv_dup hx hb d_Machine_execute_171 rfl ?_
    refine gf_Machine_48 hC hK hG d_Machine_execute_172 ?_
    refine lv_aload_n hx hb d_Machine_execute_175 rfl (lv_at hl 3 rfl) ?_
    refine lv_iload_n hx hb d_Machine_execute_176 rfl (lv_at hl 2 rfl) ?_
    refine lv_iload_n hx hb d_Machine_execute_177 rfl (lv_at hl 4 rfl) ?_
    obtain ⟨r178_90, hc178_89, hf⟩ := sm_of_b1 hf
    refine ca_Machine_92 hC hK hG (c_Machine_branches hc178_89) hl.1 ⟨Nat.le_of_ble_eq_true rfl, Nat.le_of_ble_eq_true rfl⟩ ⟨Nat.zero_le _, Nat.zero_le _⟩ (Nat.le_of_ble_eq_true rfl) d_Machine_execute_178 ?_
    refine lv_if_eq hx hb d_Machine_execute_181 rfl (fun h181_92 => ?_) (fun h181_92 => ?_)
    · have hf := sm_t h181_92 hf
      refine lv_iconst (v := 4) hx hb d_Machine_execute_193 (by decide) ?_
      refine lv_iadd hx hb d_Machine_execute_194 ?_
      refine pf_Machine_48 hC hK hG d_Machine_execute_195 (fun M195_93 H locs eM195_93 hG => ?_)
      have hf := sm_of eM195_93 hf
      refine lv_goto hx hb d_Machine_execute_198 rfl ?_
      obtain rfl := Option.some.inj hf
      exact sm_vret hC hr hlk hG d_Machine_execute_249
    · have hf := sm_f h181_92 hf
      refine lv_iconst (v := 2) hx hb d_Machine_execute_184 (by decide) ?_
      refine lv_iload_n hx hb d_Machine_execute_185 rfl (lv_at hl 4 rfl) ?_
      obtain ⟨r186_95, hc186_94, hf⟩ := sm_of_b1 hf
      refine ca_Machine_79 hC hK hG (c_Instr_numberOf hc186_94) hl.1 ⟨Nat.le_of_ble_eq_true rfl, Nat.le_of_ble_eq_true rfl⟩ ⟨Nat.zero_le _, Nat.zero_le _⟩ (Nat.le_of_ble_eq_true rfl) d_Machine_execute_186 ?_
      refine lv_imul hx hb d_Machine_execute_189 ?_
      refine lv_goto hx hb d_Machine_execute_190 rfl ?_
      refine lv_iadd hx hb d_Machine_execute_194 ?_
      refine pf_Machine_48 hC hK hG d_Machine_execute_195 (fun M195_97 H locs eM195_97 hG => ?_)
      have hf := sm_of eM195_97 hf
      refine lv_goto hx hb d_Machine_execute_198 rfl ?_
      obtain rfl := Option.some.inj hf
      exact sm_vret hC hr hlk hG d_Machine_execute_249
  have hf := sm_f h27_88 hf
  by_cases h27_98 : r1_2 = 16
  · have hf := sm_t h27_98 hf
    refine lv_tableIn (tgt := 201) hx hb d_Machine_execute_27 (by rw [h27_98]; decide) (by rw [h27_98]; decide) (by rw [h27_98]; rfl) rfl ?_
    refine lv_aload_n hx hb d_Machine_execute_201 rfl (lv_at hl 3 rfl) ?_
    refine lv_iload_n hx hb d_Machine_execute_202 rfl (lv_at hl 1 rfl) ?_
    refine lv_aload_n hx hb d_Machine_execute_203 rfl (lv_at hl 3 rfl) ?_
    refine gf_Machine_48 hC hK hG d_Machine_execute_204 ?_
    refine lv_iconst (v := 2) hx hb d_Machine_execute_207 (by decide) ?_
    refine lv_iload_n hx hb d_Machine_execute_208 rfl (lv_at hl 4 rfl) ?_
    obtain ⟨r209_100, hc209_99, hf⟩ := sm_of_b1 hf
    refine ca_Machine_79 hC hK hG (c_Instr_numberOf hc209_99) hl.1 ⟨Nat.le_of_ble_eq_true rfl, Nat.le_of_ble_eq_true rfl⟩ ⟨Nat.zero_le _, Nat.zero_le _⟩ (Nat.le_of_ble_eq_true rfl) d_Machine_execute_209 ?_
    refine lv_imul hx hb d_Machine_execute_212 ?_
    refine lv_iadd hx hb d_Machine_execute_213 ?_
    obtain ⟨M214_104, hc214_102, hf⟩ := sm_of_b1 hf
    refine ca_Machine_96 hC hK hG (c_Machine_leave hc214_102) hl.1 ⟨Nat.le_of_ble_eq_true rfl, Nat.le_of_ble_eq_true rfl⟩ ⟨Nat.zero_le _, Nat.zero_le _⟩ (Nat.le_of_ble_eq_true rfl) d_Machine_execute_214 (fun H locs hG => ?_)
    refine lv_goto hx hb d_Machine_execute_217 rfl ?_
    obtain rfl := Option.some.inj hf
    exact sm_vret hC hr hlk hG d_Machine_execute_249
  have hf := sm_f h27_98 hf
  by_cases h27_105 : r1_2 = 17
  · have hf := sm_t h27_105 hf
    refine lv_tableIn (tgt := 220) hx hb d_Machine_execute_27 (by rw [h27_105]; decide) (by rw [h27_105]; decide) (by rw [h27_105]; rfl) rfl ?_
    refine lv_aload_n hx hb d_Machine_execute_220 rfl (lv_at hl 3 rfl) ?_
    refine lv_iload_n hx hb d_Machine_execute_221 rfl (lv_at hl 1 rfl) ?_
    refine lv_iload hx hb d_Machine_execute_222 (lv_at hl 0 rfl) ?_
    obtain ⟨M224_108, hc224_106, hf⟩ := sm_of_b1 hf
    refine ca_Machine_96 hC hK hG (c_Machine_leave hc224_106) hl.1 ⟨Nat.le_of_ble_eq_true rfl, Nat.le_of_ble_eq_true rfl⟩ ⟨Nat.zero_le _, Nat.zero_le _⟩ (Nat.le_of_ble_eq_true rfl) d_Machine_execute_224 (fun H locs hG => ?_)
    refine lv_goto hx hb d_Machine_execute_227 rfl ?_
    obtain rfl := Option.some.inj hf
    exact sm_vret hC hr hlk hG d_Machine_execute_249
  have hf := sm_f h27_105 hf
  by_cases h27_109 : r1_2 = 18
  · have hf := sm_t h27_109 hf
    refine lv_tableIn (tgt := 230) hx hb d_Machine_execute_27 (by rw [h27_109]; decide) (by rw [h27_109]; decide) (by rw [h27_109]; rfl) rfl ?_
    refine lv_aload_n hx hb d_Machine_execute_230 rfl (lv_at hl 3 rfl) ?_
    refine lv_aload_n hx hb d_Machine_execute_231 rfl (lv_at hl 3 rfl) ?_
    refine gf_Machine_15 hC hK hG d_Machine_execute_232 ?_
    refine lv_iload_n hx hb d_Machine_execute_235 rfl (lv_at hl 1 rfl) ?_
    obtain ⟨h236_110, hf⟩ := sm_of_gd hf
    refine sm_iald hC hK hG (by decide) rfl h236_110 d_Machine_execute_236 ?_
    obtain ⟨M237_113, hc237_111, hf⟩ := sm_of_b1 hf
    refine ca_Machine_99 hC hK hG (c_Machine_show hc237_111) hl.1 ⟨Nat.le_of_ble_eq_true rfl, Nat.le_of_ble_eq_true rfl⟩ ⟨Nat.zero_le _, Nat.zero_le _⟩ (Nat.le_of_ble_eq_true rfl) d_Machine_execute_237 (fun H locs hG => ?_)
    refine lv_goto hx hb d_Machine_execute_240 rfl ?_
    obtain rfl := Option.some.inj hf
    exact sm_vret hC hr hlk hG d_Machine_execute_249
  have hf := sm_f h27_109 hf
  refine lv_tableOut (tgt := 243) hx hb d_Machine_execute_27 (by have := lv_neT (a := 0) h27_15 rfl; have := lv_neT (a := 1) h27_17 rfl; have := lv_neT (a := 2) h27_24 rfl; have := lv_neT (a := 3) h27_28 rfl; have := lv_neT (a := 4) h27_32 rfl; have := lv_neT (a := 5) h27_36 rfl; have := lv_neT (a := 6) h27_40 rfl; have := lv_neT (a := 7) h27_44 rfl; have := lv_neT (a := 8) h27_48 rfl; have := lv_neT (a := 9) h27_52 rfl; have := lv_neT (a := 10) h27_56 rfl; have := lv_neT (a := 11) h27_60 rfl; have := lv_neT (a := 12) h27_64 rfl; have := lv_neT (a := 13) h27_68 rfl; have := lv_neT (a := 14) h27_78 rfl; have := lv_neT (a := 15) h27_88 rfl; have := lv_neT (a := 16) h27_98 rfl; have := lv_neT (a := 17) h27_105 rfl; have := lv_neT (a := 18) h27_109 rfl; omega) rfl ?_
  refine lv_aload_n hx hb d_Machine_execute_243 rfl (lv_at hl 3 rfl) ?_
  refine lv_iload_n hx hb d_Machine_execute_244 rfl (lv_at hl 2 rfl) ?_
  refine lv_iload_n hx hb d_Machine_execute_245 rfl (lv_at hl 4 rfl) ?_
  obtain ⟨M246_116, hc246_114, hf⟩ := sm_of_b1 hf
  refine ca_Machine_102 hC hK hG (c_Machine_executeRegisters hc246_114) hl.1 ⟨Nat.le_of_ble_eq_true rfl, Nat.le_of_ble_eq_true rfl⟩ ⟨Nat.zero_le _, Nat.zero_le _⟩ (Nat.le_of_ble_eq_true rfl) d_Machine_execute_246 (fun H locs hG => ?_)
  obtain rfl := Option.some.inj hf
  exact sm_vret hC hr hlk hG d_Machine_execute_249
theorem ca_Machine_64 {p : Program} {l : Launch} {e : Env} {R : Room} {s : State} {m : MethodId} {args : Array Value} {below : List Frame} {meth : Method} {c : Code} {H : Heap} {locs : List Loc} {cells slots : Nat} {Q : State → Prop} {cc : ByteArray} {nL pc : Nat} {ls : Array Slot} {rest : List Value} {w0 : Cond} {v : sm_V} {M : sm_M} {o : sm_O} {x0 : Int32} {M' : sm_M} (hC : CallFix p m c cc nL s args (w0 :: sm_AW) R_Machine) (hK : sm_K v s) (hG : sm_G v M o s H locs) (hM : sm_Cv l y_Machine_execute w_Machine_execute rm_Machine_execute v [.ref (sm_a v 64), .int x0] M o M') (hsz : ls.size = nL) (hR : rm_Machine_execute.frames + 1 ≤ R.frames ∧ 8 + (5 + 11) + rm_Machine_execute.locals ≤ R.locals) (hcs : cells + 0 ≤ R.cells ∧ slots + 0 ≤ R.slots) (hW : (rest.map fun v => v.category).sum ≤ 8) (hdg : decode cc pc = .ok (.invokevirtual 64, 3))
    (kk : ∀ (H : Heap) (locs : List Loc), sm_G v M' o s H locs → W p l e R s m args below meth c H locs cells slots Q (F0 m (pc + 3) ls (rest))) : W p l e R s m args below meth c H locs cells slots Q (F0 m pc ls (.int x0 :: .ref (sm_a v 64) :: rest)) :=
  sm_callv (va_runV (C := R_Machine) (As := [.int x0]) (rest := rest) hC hM (cwV 1 hC.2.2.2.2 (sm_good (sm_inV aw_597 aw_599 as_19 aw_6 aw_600)) rfl rfl rfl (by decide +kernel) hR) (sm_preV hK hG (by decide) rfl rfl) rfl rfl hsz rfl (lv_room hW) hdg hcs) hG kk
abbrev w_Machine_step : List Cond := Cond.code y_Machine_step b_Machine_step 2 (none) :: sm_AW
abbrev rm_Machine_step : Room := { frames := 4, cells := 0, slots := 0, locals := 93 }
def f_Machine_step (M : sm_M) : Option (sm_M) :=
sm_nm (sm_up M 64 9 ((M 64 9) + (1 : Int32))) fun M7_1 =>
sm_b1 (f_Machine_placeOf (M7_1 64 8) (M7_1 64 3) (M7_1 64 4)) fun r22_3 =>
(if r22_3 = (-1 : Int32) then
sm_nm (sm_up M7_1 64 7 (3 : Int32)) fun M33_10 =>
(some M33_10)
else
sm_gd r22_3 241 (
sm_b1 (f_Machine_execute M7_1 (M7_1 65 (Int32.toNatClampNeg r22_3))) fun M46_9 =>
(some M46_9)))
set_option maxHeartbeats 4000000 in
set_option maxRecDepth 100000 in
theorem c_Machine_step {l : Launch} {v : sm_V} {o : sm_O} {M : sm_M} {M' : sm_M} (hf : f_Machine_step M = some M') : sm_Cv l y_Machine_step w_Machine_step rm_Machine_step v [.ref (sm_a v 64)] M o M' := by
  refine sm_met (cc := b_Machine_step) (nL := 2) (ret := none) (plainFor_of_name (by decide)) rfl (Nat.le_of_ble_eq_true rfl) (fun p e s m args below meth c hC hr hlk hK hG ls hl => ?_)
  have hx := hC.1
  have hb := hC.2.1
  have hl : lv_has ls 2 [(0, .ref (sm_a v 64))] := hl
  unfold f_Machine_step at hf
  refine lv_aload_n hx hb d_Machine_step_0 rfl (lv_at hl 0 rfl) ?_
  refine lv_dup hx hb d_Machine_step_1 rfl ?_
  refine gf_Machine_51 hC hK hG d_Machine_step_2 ?_
  refine lv_iconst (v := 1) hx hb d_Machine_step_5 (by decide) ?_
  refine lv_iadd hx hb d_Machine_step_6 ?_
  refine pf_Machine_51 hC hK hG d_Machine_step_7 (fun M7_1 H locs eM7_1 hG => ?_)
  have hf := sm_of eM7_1 hf
  refine lv_aload_n hx hb d_Machine_step_10 rfl (lv_at hl 0 rfl) ?_
  refine gf_Machine_48 hC hK hG d_Machine_step_11 ?_
  refine lv_aload_n hx hb d_Machine_step_14 rfl (lv_at hl 0 rfl) ?_
  refine gf_Machine_29 hC hK hG d_Machine_step_15 ?_
  refine lv_aload_n hx hb d_Machine_step_18 rfl (lv_at hl 0 rfl) ?_
  refine gf_Machine_33 hC hK hG d_Machine_step_19 ?_
  obtain ⟨r22_3, hc22_2, hf⟩ := sm_of_b1 hf
  refine ca_Machine_60 hC hK hG (c_Machine_placeOf hc22_2) hl.1 ⟨Nat.le_of_ble_eq_true rfl, Nat.le_of_ble_eq_true rfl⟩ ⟨Nat.zero_le _, Nat.zero_le _⟩ (Nat.le_of_ble_eq_true rfl) d_Machine_step_22 ?_
  refine lv_istore_n hx hb d_Machine_step_25 rfl hl (Nat.le_of_ble_eq_true rfl) rfl (fun ls hl => ?_)
  have hl : lv_has ls 2 [(1, .int r22_3), (0, .ref (sm_a v 64))] := hl
  refine lv_iload_n hx hb d_Machine_step_26 rfl (lv_at hl 0 rfl) ?_
  refine lv_iconst (v := -1) hx hb d_Machine_step_27 (by decide) ?_
  refine lv_icmp_ne hx hb d_Machine_step_28 rfl (fun h28_5 => ?_) (fun h28_5 => ?_)
  · have hf := sm_f h28_5 hf
    refine lv_aload_n hx hb d_Machine_step_39 rfl (lv_at hl 1 rfl) ?_
    refine lv_aload_n hx hb d_Machine_step_40 rfl (lv_at hl 1 rfl) ?_
    refine gf_Machine_11 hC hK hG d_Machine_step_41 ?_
    refine lv_iload_n hx hb d_Machine_step_44 rfl (lv_at hl 0 rfl) ?_
    obtain ⟨h45_6, hf⟩ := sm_of_gd hf
    refine sm_iald hC hK hG (by decide) rfl h45_6 d_Machine_step_45 ?_
    obtain ⟨M46_9, hc46_7, hf⟩ := sm_of_b1 hf
    refine ca_Machine_64 hC hK hG (c_Machine_execute hc46_7) hl.1 ⟨Nat.le_of_ble_eq_true rfl, Nat.le_of_ble_eq_true rfl⟩ ⟨Nat.zero_le _, Nat.zero_le _⟩ (Nat.le_of_ble_eq_true rfl) d_Machine_step_46 (fun H locs hG => ?_)
    obtain rfl := Option.some.inj hf
    exact sm_vret hC hr hlk hG d_Machine_step_49
  · have hf := sm_t h28_5 hf
    refine lv_aload_n hx hb d_Machine_step_31 rfl (lv_at hl 1 rfl) ?_
    refine lv_iconst (v := 3) hx hb d_Machine_step_32 (by decide) ?_
    refine pf_Machine_45 hC hK hG d_Machine_step_33 (fun M33_10 H locs eM33_10 hG => ?_)
    have hf := sm_of eM33_10 hf
    refine lv_goto hx hb d_Machine_step_36 rfl ?_
    obtain rfl := Option.some.inj hf
    exact sm_vret hC hr hlk hG d_Machine_step_49
theorem ca_Machine_57 {p : Program} {l : Launch} {e : Env} {R : Room} {s : State} {m : MethodId} {args : Array Value} {below : List Frame} {meth : Method} {c : Code} {H : Heap} {locs : List Loc} {cells slots : Nat} {Q : State → Prop} {cc : ByteArray} {nL pc : Nat} {ls : Array Slot} {rest : List Value} {w0 : Cond} {v : sm_V} {M : sm_M} {o : sm_O} {M' : sm_M} (hC : CallFix p m c cc nL s args (w0 :: sm_AW) R_Machine) (hK : sm_K v s) (hG : sm_G v M o s H locs) (hM : sm_Cv l y_Machine_step w_Machine_step rm_Machine_step v [.ref (sm_a v 64)] M o M') (hsz : ls.size = nL) (hR : rm_Machine_step.frames + 1 ≤ R.frames ∧ 8 + (2 + 11) + rm_Machine_step.locals ≤ R.locals) (hcs : cells + 0 ≤ R.cells ∧ slots + 0 ≤ R.slots) (hW : (rest.map fun v => v.category).sum ≤ 8) (hdg : decode cc pc = .ok (.invokevirtual 57, 3))
    (kk : ∀ (H : Heap) (locs : List Loc), sm_G v M' o s H locs → W p l e R s m args below meth c H locs cells slots Q (F0 m (pc + 3) ls (rest))) : W p l e R s m args below meth c H locs cells slots Q (F0 m pc ls (.ref (sm_a v 64) :: rest)) :=
  sm_callv (va_runV (C := R_Machine) (As := []) (rest := rest) hC hM (cwV 0 hC.2.2.2.2 (sm_good (sm_inV aw_589 aw_591 as_18 aw_6 aw_592)) rfl rfl rfl (by decide +kernel) hR) (sm_preV hK hG (by decide) rfl rfl) rfl rfl hsz rfl (lv_room hW) hdg hcs) hG kk
abbrev w_Machine_advance : List Cond := Cond.code y_Machine_advance b_Machine_advance 4 (some .int) :: sm_AW
abbrev rm_Machine_advance : Room := { frames := 5, cells := 0, slots := 0, locals := 114 }
def g_Machine_advance_7 (w2 : Int32) (w1 : Int32) (rec7 : sm_M → Int32 → Option (Int32 × sm_M)) (M : sm_M) (w3 : Int32) : Option (Int32 × sm_M) :=
(if w1 ≤ w3 then
(some ((M 64 9) - w2, M))
else
(if (M 64 7) = (1 : Int32) then
sm_b1 (f_Machine_step M) fun M21_6 =>
rec7 M21_6 (w3 + (1 : Int32))
else
(some ((M 64 9) - w2, M))))
def f_Machine_advance (M : sm_M) (a0 : Int32) : Option (Int32 × sm_M) :=
sm_nm (M 64 9) fun x4_1 =>
sm_lp2 (g_Machine_advance_7 x4_1 a0) 1100 M (0 : Int32)
set_option maxHeartbeats 4000000 in
set_option maxRecDepth 100000 in
theorem lw_Machine_advance_7 {p : Program} {l : Launch} {e : Env} {s : State} {m : MethodId} {args : Array Value} {below : List Frame} {meth : Method} {c : Code} {v : sm_V} {o : sm_O} {r : Int32} {M' : sm_M} (hC : CallFix p m c b_Machine_advance 4 s args w_Machine_advance R_Machine) (hr : meth.sig.returnType = some .int) (hlk : meth.locks = false) (hK : sm_K v s) (w2 : Int32) (w1 : Int32) :
    ∀ (n : Nat) (M : sm_M) (w3 : Int32) (H : Heap) (locs : List Loc) (ls : Array Slot), sm_G v M o s H locs → lv_has ls 4 [(3, .int w3), (2, .int w2), (0, .ref (sm_a v 64)), (1, .int w1)] → sm_lp2 (g_Machine_advance_7 w2 w1) n M w3 = some (r, M') → W p l e rm_Machine_advance s m args below meth c H locs 0 0 (MQ below (sm_Qi v M' o r) args s 0 0 (sm_A v)) (F0 m 7 ls []) := by
  have hx := hC.1
  have hb := hC.2.1
  intro n
  induction n with
  | zero =>
    intro M w3 H locs ls hG hl hf
    cases hf
  | succ n ih =>
    intro M w3 H locs ls hG hl hf
    have hf : g_Machine_advance_7 w2 w1 (sm_lp2 (g_Machine_advance_7 w2 w1) n) M w3 = some (r, M') := hf
    unfold g_Machine_advance_7 at hf
    refine lv_iload_n hx hb d_Machine_advance_7 rfl (lv_at hl 0 rfl) ?_
    refine lv_iload_n hx hb d_Machine_advance_8 rfl (lv_at hl 3 rfl) ?_
    refine lv_icmp_ge hx hb d_Machine_advance_9 rfl (fun h9_2 => ?_) (fun h9_2 => ?_)
    · have hf := sm_t h9_2 hf
      refine lv_aload_n hx hb d_Machine_advance_30 rfl (lv_at hl 2 rfl) ?_
      refine gf_Machine_51 hC hK hG d_Machine_advance_31 ?_
      refine lv_iload_n hx hb d_Machine_advance_34 rfl (lv_at hl 1 rfl) ?_
      refine lv_isub hx hb d_Machine_advance_35 ?_
      obtain ⟨rfl, rfl⟩ := Prod.mk.inj (Option.some.inj hf)
      exact sm_iret hC hr hlk hG d_Machine_advance_36
    · have hf := sm_f h9_2 hf
      refine lv_aload_n hx hb d_Machine_advance_12 rfl (lv_at hl 2 rfl) ?_
      refine gf_Machine_45 hC hK hG d_Machine_advance_13 ?_
      refine lv_iconst (v := 1) hx hb d_Machine_advance_16 (by decide) ?_
      refine lv_icmp_ne hx hb d_Machine_advance_17 rfl (fun h17_3 => ?_) (fun h17_3 => ?_)
      · have hf := sm_f h17_3 hf
        refine lv_aload_n hx hb d_Machine_advance_30 rfl (lv_at hl 2 rfl) ?_
        refine gf_Machine_51 hC hK hG d_Machine_advance_31 ?_
        refine lv_iload_n hx hb d_Machine_advance_34 rfl (lv_at hl 1 rfl) ?_
        refine lv_isub hx hb d_Machine_advance_35 ?_
        obtain ⟨rfl, rfl⟩ := Prod.mk.inj (Option.some.inj hf)
        exact sm_iret hC hr hlk hG d_Machine_advance_36
      · have hf := sm_t h17_3 hf
        refine lv_aload_n hx hb d_Machine_advance_20 rfl (lv_at hl 2 rfl) ?_
        obtain ⟨M21_6, hc21_4, hf⟩ := sm_of_b1 hf
        refine ca_Machine_57 hC hK hG (c_Machine_step hc21_4) hl.1 ⟨Nat.le_of_ble_eq_true rfl, Nat.le_of_ble_eq_true rfl⟩ ⟨Nat.zero_le _, Nat.zero_le _⟩ (Nat.le_of_ble_eq_true rfl) d_Machine_advance_21 (fun H locs hG => ?_)
        refine lv_iinc (v := w3 + (1 : Int32)) (k := 0) hx hb d_Machine_advance_24 hl rfl rfl (Nat.le_of_ble_eq_true rfl) rfl (fun ls hl => ?_)
        have hl : lv_has ls 4 [(3, .int (w3 + (1 : Int32))), (2, .int w2), (0, .ref (sm_a v 64)), (1, .int w1)] := hl
        refine lv_goto hx hb d_Machine_advance_27 rfl ?_
        exact ih _ _ _ _ ls hG hl hf
set_option maxHeartbeats 4000000 in
set_option maxRecDepth 100000 in
theorem c_Machine_advance {l : Launch} {v : sm_V} {o : sm_O} {M : sm_M} {a0 : Int32} {r : Int32} {M' : sm_M} (hf : f_Machine_advance M a0 = some (r, M')) : sm_Ci l y_Machine_advance w_Machine_advance rm_Machine_advance v [.ref (sm_a v 64), .int a0] M o r M' := by
  refine sm_met (cc := b_Machine_advance) (nL := 4) (ret := some .int) (plainFor_of_name (by decide)) rfl (Nat.le_of_ble_eq_true rfl) (fun p e s m args below meth c hC hr hlk hK hG ls hl => ?_)
  have hx := hC.1
  have hb := hC.2.1
  have hl : lv_has ls 4 [(0, .ref (sm_a v 64)), (1, .int a0)] := hl
  unfold f_Machine_advance at hf
  refine lv_aload_n hx hb d_Machine_advance_0 rfl (lv_at hl 0 rfl) ?_
  refine gf_Machine_51 hC hK hG d_Machine_advance_1 ?_
  refine lv_topi (fun x4_1 ex4_1 => ?_)
  have hf := sm_of ex4_1 hf
  refine lv_istore_n hx hb d_Machine_advance_4 rfl hl (Nat.le_of_ble_eq_true rfl) rfl (fun ls hl => ?_)
  have hl : lv_has ls 4 [(2, .int x4_1), (0, .ref (sm_a v 64)), (1, .int a0)] := hl
  refine lv_iconst (v := 0) hx hb d_Machine_advance_5 (by decide) ?_
  refine lv_istore_n hx hb d_Machine_advance_6 rfl hl (Nat.le_of_ble_eq_true rfl) rfl (fun ls hl => ?_)
  have hl : lv_has ls 4 [(3, .int (0 : Int32)), (2, .int x4_1), (0, .ref (sm_a v 64)), (1, .int a0)] := hl
  exact lw_Machine_advance_7 hC hr hlk hK x4_1 a0 1100 _ _ _ _ ls hG hl hf
theorem ca_Machine_121 {p : Program} {l : Launch} {e : Env} {R : Room} {s : State} {m : MethodId} {args : Array Value} {below : List Frame} {meth : Method} {c : Code} {H : Heap} {locs : List Loc} {cells slots : Nat} {Q : State → Prop} {cc : ByteArray} {nL pc : Nat} {ls : Array Slot} {rest : List Value} {w0 : Cond} {v : sm_V} {M : sm_M} {o : sm_O} {x0 : Int32} {x1 : Int32} {r : Int32} (hC : CallFix p m c cc nL s args (w0 :: sm_AW) R_Machine) (hK : sm_K v s) (hG : sm_G v M o s H locs) (hM : sm_Ri l y_Math_min w_Math_min rm_Math_min v [.int x0, .int x1] M o r) (hsz : ls.size = nL) (hR : rm_Math_min.frames + 1 ≤ R.frames ∧ 8 + (2 + 11) + rm_Math_min.locals ≤ R.locals) (hcs : cells + 0 ≤ R.cells ∧ slots + 0 ≤ R.slots) (hW : (rest.map fun v => v.category).sum ≤ 8) (hdg : decode cc pc = .ok (.invokestatic 121, 3))
    (kk : W p l e R s m args below meth c H locs cells slots Q (F0 m (pc + 3) ls (.int r :: rest))) : W p l e R s m args below meth c H locs cells slots Q (F0 m pc ls (.int x1 :: .int x0 :: rest)) :=
  sm_calli0 (va_runS (As := [.int x0, .int x1]) (rest := rest) hC hM (va_cwS 2 hC.2.2.2.2 (sm_good (sm_inT aw_272 aw_273 aw_15 aw_274)) rfl rfl rfl (by decide +kernel) hR) (sm_preS hK hG) rfl rfl hsz rfl (lv_room hW) hdg hcs) kk
theorem ca_Machine_127 {p : Program} {l : Launch} {e : Env} {R : Room} {s : State} {m : MethodId} {args : Array Value} {below : List Frame} {meth : Method} {c : Code} {H : Heap} {locs : List Loc} {cells slots : Nat} {Q : State → Prop} {cc : ByteArray} {nL pc : Nat} {ls : Array Slot} {rest : List Value} {w0 : Cond} {v : sm_V} {M : sm_M} {o : sm_O} {x0 : Int32} {x1 : Int32} {r : Int32} (hC : CallFix p m c cc nL s args (w0 :: sm_AW) R_Machine) (hK : sm_K v s) (hG : sm_G v M o s H locs) (hM : sm_Ri l y_Mill_isBelow w_Mill_isBelow rm_Mill_isBelow v [.int x0, .int x1] M o r) (hsz : ls.size = nL) (hR : rm_Mill_isBelow.frames + 1 ≤ R.frames ∧ 8 + (2 + 11) + rm_Mill_isBelow.locals ≤ R.locals) (hcs : cells + 0 ≤ R.cells ∧ slots + 0 ≤ R.slots) (hW : (rest.map fun v => v.category).sum ≤ 8) (hdg : decode cc pc = .ok (.invokestatic 127, 3))
    (kk : W p l e R s m args below meth c H locs cells slots Q (F0 m (pc + 3) ls (.int r :: rest))) : W p l e R s m args below meth c H locs cells slots Q (F0 m pc ls (.int x1 :: .int x0 :: rest)) :=
  sm_calli0 (va_runSN (As := [.int x0, .int x1]) (rest := rest) hC hM ⟨va_cnB 2 hC.2.2.2.2 (sm_good (sm_inC aw_216)) rfl rfl rfl (hK.2.1 _ nw_275) (hC.2.2.2.2 _ (List.mem_cons_of_mem _ aw_1)) (by decide +kernel) hR, hC.2.2.2.2 _ (List.mem_cons_of_mem _ aw_215), trivial⟩ (sm_preS hK hG) rfl rfl hsz rfl (lv_room hW) hdg hcs) kk
abbrev w_Machine_lastShown : List Cond := Cond.code y_Machine_lastShown b_Machine_lastShown 2 (some .int) :: sm_AW
abbrev rm_Machine_lastShown : Room := { frames := 1, cells := 0, slots := 0, locals := 21 }
def f_Machine_lastShown (M : sm_M) (a0 : Int32) : Option (Int32) :=
sm_b1 (f_Math_min (M 64 10) (16 : Int32)) fun r7_2 =>
sm_b1 (f_Mill_isBelow a0 r7_2) fun r10_5 =>
(if r10_5 = 0 then
(some (-1 : Int32))
else
sm_gd ((((M 64 10) - (1 : Int32)) - a0) - (((M 64 10) - (1 : Int32)) - a0) / (16 : Int32) * (16 : Int32)) 16 (
(some (M 67 (Int32.toNatClampNeg ((((M 64 10) - (1 : Int32)) - a0) - (((M 64 10) - (1 : Int32)) - a0) / (16 : Int32) * (16 : Int32)))))))
set_option maxHeartbeats 4000000 in
set_option maxRecDepth 100000 in
theorem c_Machine_lastShown {l : Launch} {v : sm_V} {o : sm_O} {M : sm_M} {a0 : Int32} {r : Int32} (hf : f_Machine_lastShown M a0 = some r) : sm_Ri l y_Machine_lastShown w_Machine_lastShown rm_Machine_lastShown v [.ref (sm_a v 64), .int a0] M o r  := by
  refine sm_met (cc := b_Machine_lastShown) (nL := 2) (ret := some .int) (plainFor_of_name (by decide)) rfl (Nat.le_of_ble_eq_true rfl) (fun p e s m args below meth c hC hr hlk hK hG ls hl => ?_)
  have hx := hC.1
  have hb := hC.2.1
  have hl : lv_has ls 2 [(0, .ref (sm_a v 64)), (1, .int a0)] := hl
  unfold f_Machine_lastShown at hf
  refine lv_iload_n hx hb d_Machine_lastShown_0 rfl (lv_at hl 1 rfl) ?_
  refine lv_aload_n hx hb d_Machine_lastShown_1 rfl (lv_at hl 0 rfl) ?_
  refine gf_Machine_54 hC hK hG d_Machine_lastShown_2 ?_
  refine lv_bipush (v := 16) hx hb d_Machine_lastShown_5 (by decide) ?_
  obtain ⟨r7_2, hc7_1, hf⟩ := sm_of_b1 hf
  refine ca_Machine_121 hC hK hG (c_Math_min hc7_1) hl.1 ⟨Nat.le_of_ble_eq_true rfl, Nat.le_of_ble_eq_true rfl⟩ ⟨Nat.zero_le _, Nat.zero_le _⟩ (Nat.le_of_ble_eq_true rfl) d_Machine_lastShown_7 ?_
  obtain ⟨r10_5, hc10_4, hf⟩ := sm_of_b1 hf
  refine ca_Machine_127 hC hK hG (c_Mill_isBelow hc10_4) hl.1 ⟨Nat.le_of_ble_eq_true rfl, Nat.le_of_ble_eq_true rfl⟩ ⟨Nat.zero_le _, Nat.zero_le _⟩ (Nat.le_of_ble_eq_true rfl) d_Machine_lastShown_10 ?_
  refine lv_if_ne hx hb d_Machine_lastShown_13 rfl (fun h13_7 => ?_) (fun h13_7 => ?_)
  · have hf := sm_f h13_7 hf
    refine lv_aload_n hx hb d_Machine_lastShown_18 rfl (lv_at hl 0 rfl) ?_
    refine gf_Machine_18 hC hK hG d_Machine_lastShown_19 ?_
    refine lv_aload_n hx hb d_Machine_lastShown_22 rfl (lv_at hl 0 rfl) ?_
    refine gf_Machine_54 hC hK hG d_Machine_lastShown_23 ?_
    refine lv_iconst (v := 1) hx hb d_Machine_lastShown_26 (by decide) ?_
    refine lv_isub hx hb d_Machine_lastShown_27 ?_
    refine lv_iload_n hx hb d_Machine_lastShown_28 rfl (lv_at hl 1 rfl) ?_
    refine lv_isub hx hb d_Machine_lastShown_29 ?_
    refine lv_bipush (v := 16) hx hb d_Machine_lastShown_30 (by decide) ?_
    refine lv_irem hx hb d_Machine_lastShown_32 (by decide) ?_
    obtain ⟨h33_8, hf⟩ := sm_of_gd hf
    refine sm_iald hC hK hG (by decide) rfl h33_8 d_Machine_lastShown_33 ?_
    obtain rfl := Option.some.inj hf
    exact sm_iret0 hC hr hlk d_Machine_lastShown_34
  · have hf := sm_t h13_7 hf
    refine lv_iconst (v := -1) hx hb d_Machine_lastShown_16 (by decide) ?_
    obtain rfl := Option.some.inj hf
    exact sm_iret0 hC hr hlk d_Machine_lastShown_17
