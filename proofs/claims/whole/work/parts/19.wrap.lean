def f_Law_put (M : sm_M) (o : sm_O) (a0 : Int32) (a1 : Int32) (a2 : Int32) (a3 : Int32) (a4 : Int32) : Option (Int32 × sm_M × sm_O) :=
  sm_b1 (f_Mill_put M a0 a1 a2 a3 a4) fun q => match q with
  | .inl a => some (0, a.2, vp_updL o 0 (Int32.toInt64 a.1))
  | .inr n => if n = 1 then some (1, M, o) else if n = 2 then some (2, M, o) else none
abbrev w_Law_put : List Cond := Cond.codeWith y_Law_put b_Law_put 8 (some .int) [(0, 16, 19, 13), (0, 16, 23, 15)] :: sm_AW
abbrev rm_Law_put : Room := { frames := 7, cells := 1, slots := 6, locals := 116 }
set_option maxHeartbeats 4000000 in
set_option maxRecDepth 100000 in
theorem c_Law_put {l : Launch} {v : sm_V} {o o' : sm_O} {M M' : sm_M} {a0 : Int32} {a1 : Int32} {a2 : Int32} {a3 : Int32} {a4 : Int32} {r : Int32} (hfl : l.flags = pinnedFlags ++ [noTraceFlag]) (hf : f_Law_put M o a0 a1 a2 a3 a4 = some (r, M', o')) : sm_Cw l y_Law_put w_Law_put rm_Law_put v [.ref (sm_a v 0), .int a0, .int a1, .int a2, .int a3, .int a4, .ref (sm_a v 90)] M o r M' o' := by
  refine sm_metW (cc := b_Law_put) (nL := 8) (ret := some .int) (hh := [(0, 16, 19, 13), (0, 16, 23, 15)]) (by decide) rfl (Nat.le_of_ble_eq_true rfl) (fun p e s m args below meth c hC hr hlk htab hK hG ls hl => ?_)
  have hx := hC.1
  have hb := hC.2.1
  have hl : lv_has ls 8 [(0, .ref (sm_a v 0)), (1, .int a0), (2, .int a1), (3, .int a2), (4, .int a3), (5, .int a4), (6, .ref (sm_a v 90))] := hl
  unfold f_Law_put at hf
  obtain ⟨q, hc, hf⟩ := sm_of_b1 hf
  refine lv_aload hx hb d_Law_put_0 (lv_at hl 6 rfl) ?_
  refine lv_iconst (v := 0) hx hb d_Law_put_2 (by decide) ?_
  refine lv_aload_n hx hb d_Law_put_3 rfl (lv_at hl 0 rfl) ?_
  refine lv_iload_n hx hb d_Law_put_4 rfl (lv_at hl 1 rfl) ?_
  refine lv_iload_n hx hb d_Law_put_5 rfl (lv_at hl 2 rfl) ?_
  refine lv_iload_n hx hb d_Law_put_6 rfl (lv_at hl 3 rfl) ?_
  refine lv_iload hx hb d_Law_put_7 (lv_at hl 4 rfl) ?_
  refine lv_iload hx hb d_Law_put_9 (lv_at hl 5 rfl) ?_
  cases q with
  | inl a =>
    obtain ⟨r1, M1⟩ := a
    obtain ⟨rfl, h9⟩ := Prod.mk.inj (Option.some.inj hf)
    obtain ⟨rfl, rfl⟩ := Prod.mk.inj h9
    refine sm_calliC (va_runV (C := R_Mill) (As := [.int a0, .int a1, .int a2, .int a3, .int a4]) (rest := [.int 0, .ref (sm_a v 90)]) hC (sm_X_ret (c_Mill_put hfl hc)) (cwV 5 hC.2.2.2.2 (sm_good (sm_inV aw_289 aw_290 aw_291 aw_1 aw_292)) rfl rfl rfl (by decide +kernel) ⟨Nat.le_of_ble_eq_true rfl, Nat.le_of_ble_eq_true rfl⟩) (sm_preV hK hG (by decide) rfl rfl) rfl rfl hl.1 rfl (lv_room (Nat.le_of_ble_eq_true rfl)) d_Law_put_11 ⟨Nat.le_of_ble_eq_true rfl, Nat.le_of_ble_eq_true rfl⟩) hG (fun H locs hG => ?_)
    refine lv_i2l hx hb d_Law_put_14 rfl ?_
    refine sm_last hC hK hG sm_in0 d_Law_put_15 (fun H locs hG => ?_)
    refine lv_goto hx hb d_Law_put_16 rfl ?_
    refine lv_iconst (v := 0) hx hb d_Law_put_27 (by decide) ?_
    exact sm_iretC hC hr hlk hG d_Law_put_28
  | inr n =>
    by_cases h0 : n = 1
    · subst h0
      obtain ⟨rfl, h9⟩ := Prod.mk.inj (Option.some.inj hf)
      obtain ⟨rfl, rfl⟩ := Prod.mk.inj h9
      refine sm_callT (C := R_Mill) (n := 1) (hpc := 19) (As := [.int a0, .int a1, .int a2, .int a3, .int a4]) (rest := [.int 0, .ref (sm_a v 90)]) hC (c_Mill_put hfl hc) (cwV 5 hC.2.2.2.2 (sm_good (sm_inV aw_289 aw_290 aw_291 aw_1 aw_292)) rfl rfl rfl (by decide +kernel) ⟨Nat.le_of_ble_eq_true rfl, Nat.le_of_ble_eq_true rfl⟩) (sm_preV hK hG (by decide) rfl rfl) hG (fun U x cell g1 g2 g3 g4 g5 g6 g7 => sm_fd1 g6 hC.2.2.2.1 g1 g2 g7 htab rfl rfl (by decide) (hC.2.2.2.2 _ (List.mem_cons_of_mem _ aw_287)) g3 g4 g5) hl.1 rfl (Nat.le_of_ble_eq_true rfl) d_Law_put_11 ⟨Nat.le_of_ble_eq_true rfl, Nat.le_of_ble_eq_true rfl⟩ (fun H locs x hG => ?_)
      refine lv_astore hx hb d_Law_put_19 hl (Nat.le_of_ble_eq_true rfl) rfl (fun ls hl => ?_)
      refine lv_iconst (v := 1) hx hb d_Law_put_21 (by decide) ?_
      exact sm_iretC hC hr hlk hG d_Law_put_22
    have hf := sm_f h0 hf
    by_cases h1 : n = 2
    · subst h1
      obtain ⟨rfl, h9⟩ := Prod.mk.inj (Option.some.inj hf)
      obtain ⟨rfl, rfl⟩ := Prod.mk.inj h9
      refine sm_callT (C := R_Mill) (n := 2) (hpc := 23) (As := [.int a0, .int a1, .int a2, .int a3, .int a4]) (rest := [.int 0, .ref (sm_a v 90)]) hC (c_Mill_put hfl hc) (cwV 5 hC.2.2.2.2 (sm_good (sm_inV aw_289 aw_290 aw_291 aw_1 aw_292)) rfl rfl rfl (by decide +kernel) ⟨Nat.le_of_ble_eq_true rfl, Nat.le_of_ble_eq_true rfl⟩) (sm_preV hK hG (by decide) rfl rfl) hG (fun U x cell g1 g2 g3 g4 g5 g6 g7 => sm_fd2 g6 hC.2.2.2.1 g1 g2 g7 htab rfl rfl (by decide) (hC.2.2.2.2 _ (List.mem_cons_of_mem _ aw_287)) (va_Nc.of (hK.2.1 _ nw_no)) rfl (by decide) (hC.2.2.2.2 _ (List.mem_cons_of_mem _ aw_288)) g3 g4 g5) hl.1 rfl (Nat.le_of_ble_eq_true rfl) d_Law_put_11 ⟨Nat.le_of_ble_eq_true rfl, Nat.le_of_ble_eq_true rfl⟩ (fun H locs x hG => ?_)
      refine lv_astore hx hb d_Law_put_23 hl (Nat.le_of_ble_eq_true rfl) rfl (fun ls hl => ?_)
      refine lv_iconst (v := 2) hx hb d_Law_put_25 (by decide) ?_
      exact sm_iretC hC hr hlk hG d_Law_put_26
    have hf := sm_f h1 hf
    cases hf
def f_Law_word (M : sm_M) (o : sm_O) (a0 : Int32) (a1 : Int32) : Option (Int32 × sm_M × sm_O) :=
  sm_b1 (f_Mill_word M a0 a1) fun q => match q with
  | .inl a => some (0, a.2, vp_updL o 0 (Int32.toInt64 a.1))
  | .inr n => if n = 1 then some (1, M, o) else if n = 2 then some (2, M, o) else none
abbrev w_Law_word : List Cond := Cond.codeWith y_Law_word b_Law_word 5 (some .int) [(0, 10, 13, 13), (0, 10, 17, 15)] :: sm_AW
abbrev rm_Law_word : Room := { frames := 7, cells := 1, slots := 6, locals := 113 }
set_option maxHeartbeats 4000000 in
set_option maxRecDepth 100000 in
theorem c_Law_word {l : Launch} {v : sm_V} {o o' : sm_O} {M M' : sm_M} {a0 : Int32} {a1 : Int32} {r : Int32} (hfl : l.flags = pinnedFlags ++ [noTraceFlag]) (hf : f_Law_word M o a0 a1 = some (r, M', o')) : sm_Cw l y_Law_word w_Law_word rm_Law_word v [.ref (sm_a v 0), .int a0, .int a1, .ref (sm_a v 90)] M o r M' o' := by
  refine sm_metW (cc := b_Law_word) (nL := 5) (ret := some .int) (hh := [(0, 10, 13, 13), (0, 10, 17, 15)]) (by decide) rfl (Nat.le_of_ble_eq_true rfl) (fun p e s m args below meth c hC hr hlk htab hK hG ls hl => ?_)
  have hx := hC.1
  have hb := hC.2.1
  have hl : lv_has ls 5 [(0, .ref (sm_a v 0)), (1, .int a0), (2, .int a1), (3, .ref (sm_a v 90))] := hl
  unfold f_Law_word at hf
  obtain ⟨q, hc, hf⟩ := sm_of_b1 hf
  refine lv_aload_n hx hb d_Law_word_0 rfl (lv_at hl 3 rfl) ?_
  refine lv_iconst (v := 0) hx hb d_Law_word_1 (by decide) ?_
  refine lv_aload_n hx hb d_Law_word_2 rfl (lv_at hl 0 rfl) ?_
  refine lv_iload_n hx hb d_Law_word_3 rfl (lv_at hl 1 rfl) ?_
  refine lv_iload_n hx hb d_Law_word_4 rfl (lv_at hl 2 rfl) ?_
  cases q with
  | inl a =>
    obtain ⟨r1, M1⟩ := a
    obtain ⟨rfl, h9⟩ := Prod.mk.inj (Option.some.inj hf)
    obtain ⟨rfl, rfl⟩ := Prod.mk.inj h9
    refine sm_calliC (va_runV (C := R_Mill) (As := [.int a0, .int a1]) (rest := [.int 0, .ref (sm_a v 90)]) hC (sm_X_ret (c_Mill_word hfl hc)) (cwV 2 hC.2.2.2.2 (sm_good (sm_inV aw_401 aw_402 aw_403 aw_1 aw_404)) rfl rfl rfl (by decide +kernel) ⟨Nat.le_of_ble_eq_true rfl, Nat.le_of_ble_eq_true rfl⟩) (sm_preV hK hG (by decide) rfl rfl) rfl rfl hl.1 rfl (lv_room (Nat.le_of_ble_eq_true rfl)) d_Law_word_5 ⟨Nat.le_of_ble_eq_true rfl, Nat.le_of_ble_eq_true rfl⟩) hG (fun H locs hG => ?_)
    refine lv_i2l hx hb d_Law_word_8 rfl ?_
    refine sm_last hC hK hG sm_in0 d_Law_word_9 (fun H locs hG => ?_)
    refine lv_goto hx hb d_Law_word_10 rfl ?_
    refine lv_iconst (v := 0) hx hb d_Law_word_21 (by decide) ?_
    exact sm_iretC hC hr hlk hG d_Law_word_22
  | inr n =>
    by_cases h0 : n = 1
    · subst h0
      obtain ⟨rfl, h9⟩ := Prod.mk.inj (Option.some.inj hf)
      obtain ⟨rfl, rfl⟩ := Prod.mk.inj h9
      refine sm_callT (C := R_Mill) (n := 1) (hpc := 13) (As := [.int a0, .int a1]) (rest := [.int 0, .ref (sm_a v 90)]) hC (c_Mill_word hfl hc) (cwV 2 hC.2.2.2.2 (sm_good (sm_inV aw_401 aw_402 aw_403 aw_1 aw_404)) rfl rfl rfl (by decide +kernel) ⟨Nat.le_of_ble_eq_true rfl, Nat.le_of_ble_eq_true rfl⟩) (sm_preV hK hG (by decide) rfl rfl) hG (fun U x cell g1 g2 g3 g4 g5 g6 g7 => sm_fd1 g6 hC.2.2.2.1 g1 g2 g7 htab rfl rfl (by decide) (hC.2.2.2.2 _ (List.mem_cons_of_mem _ aw_287)) g3 g4 g5) hl.1 rfl (Nat.le_of_ble_eq_true rfl) d_Law_word_5 ⟨Nat.le_of_ble_eq_true rfl, Nat.le_of_ble_eq_true rfl⟩ (fun H locs x hG => ?_)
      refine lv_astore hx hb d_Law_word_13 hl (Nat.le_of_ble_eq_true rfl) rfl (fun ls hl => ?_)
      refine lv_iconst (v := 1) hx hb d_Law_word_15 (by decide) ?_
      exact sm_iretC hC hr hlk hG d_Law_word_16
    have hf := sm_f h0 hf
    by_cases h1 : n = 2
    · subst h1
      obtain ⟨rfl, h9⟩ := Prod.mk.inj (Option.some.inj hf)
      obtain ⟨rfl, rfl⟩ := Prod.mk.inj h9
      refine sm_callT (C := R_Mill) (n := 2) (hpc := 17) (As := [.int a0, .int a1]) (rest := [.int 0, .ref (sm_a v 90)]) hC (c_Mill_word hfl hc) (cwV 2 hC.2.2.2.2 (sm_good (sm_inV aw_401 aw_402 aw_403 aw_1 aw_404)) rfl rfl rfl (by decide +kernel) ⟨Nat.le_of_ble_eq_true rfl, Nat.le_of_ble_eq_true rfl⟩) (sm_preV hK hG (by decide) rfl rfl) hG (fun U x cell g1 g2 g3 g4 g5 g6 g7 => sm_fd2 g6 hC.2.2.2.1 g1 g2 g7 htab rfl rfl (by decide) (hC.2.2.2.2 _ (List.mem_cons_of_mem _ aw_287)) (va_Nc.of (hK.2.1 _ nw_no)) rfl (by decide) (hC.2.2.2.2 _ (List.mem_cons_of_mem _ aw_288)) g3 g4 g5) hl.1 rfl (Nat.le_of_ble_eq_true rfl) d_Law_word_5 ⟨Nat.le_of_ble_eq_true rfl, Nat.le_of_ble_eq_true rfl⟩ (fun H locs x hG => ?_)
      refine lv_astore hx hb d_Law_word_17 hl (Nat.le_of_ble_eq_true rfl) rfl (fun ls hl => ?_)
      refine lv_iconst (v := 2) hx hb d_Law_word_19 (by decide) ?_
      exact sm_iretC hC hr hlk hG d_Law_word_20
    have hf := sm_f h1 hf
    cases hf
def f_Law_define (M : sm_M) (o : sm_O) (a0 : Int32) (a1 : Int32) (a2 : Int32) (a3 : Int32) (a4 : Int32) : Option (Int32 × sm_M × sm_O) :=
  sm_b1 (f_Mill_define M a0 a1 a2 a3 a4) fun q => match q with
  | .inl a => some (0, a.2, vp_updL o 0 (Int32.toInt64 a.1))
  | .inr n => if n = 1 then some (1, M, o) else if n = 2 then some (2, M, o) else none
abbrev w_Law_define : List Cond := Cond.codeWith y_Law_define b_Law_define 8 (some .int) [(0, 16, 19, 13), (0, 16, 23, 15)] :: sm_AW
abbrev rm_Law_define : Room := { frames := 7, cells := 1, slots := 6, locals := 116 }
set_option maxHeartbeats 4000000 in
set_option maxRecDepth 100000 in
theorem c_Law_define {l : Launch} {v : sm_V} {o o' : sm_O} {M M' : sm_M} {a0 : Int32} {a1 : Int32} {a2 : Int32} {a3 : Int32} {a4 : Int32} {r : Int32} (hfl : l.flags = pinnedFlags ++ [noTraceFlag]) (hf : f_Law_define M o a0 a1 a2 a3 a4 = some (r, M', o')) : sm_Cw l y_Law_define w_Law_define rm_Law_define v [.ref (sm_a v 0), .int a0, .int a1, .int a2, .int a3, .int a4, .ref (sm_a v 90)] M o r M' o' := by
  refine sm_metW (cc := b_Law_define) (nL := 8) (ret := some .int) (hh := [(0, 16, 19, 13), (0, 16, 23, 15)]) (by decide) rfl (Nat.le_of_ble_eq_true rfl) (fun p e s m args below meth c hC hr hlk htab hK hG ls hl => ?_)
  have hx := hC.1
  have hb := hC.2.1
  have hl : lv_has ls 8 [(0, .ref (sm_a v 0)), (1, .int a0), (2, .int a1), (3, .int a2), (4, .int a3), (5, .int a4), (6, .ref (sm_a v 90))] := hl
  unfold f_Law_define at hf
  obtain ⟨q, hc, hf⟩ := sm_of_b1 hf
  refine lv_aload hx hb d_Law_define_0 (lv_at hl 6 rfl) ?_
  refine lv_iconst (v := 0) hx hb d_Law_define_2 (by decide) ?_
  refine lv_aload_n hx hb d_Law_define_3 rfl (lv_at hl 0 rfl) ?_
  refine lv_iload_n hx hb d_Law_define_4 rfl (lv_at hl 1 rfl) ?_
  refine lv_iload_n hx hb d_Law_define_5 rfl (lv_at hl 2 rfl) ?_
  refine lv_iload_n hx hb d_Law_define_6 rfl (lv_at hl 3 rfl) ?_
  refine lv_iload hx hb d_Law_define_7 (lv_at hl 4 rfl) ?_
  refine lv_iload hx hb d_Law_define_9 (lv_at hl 5 rfl) ?_
  cases q with
  | inl a =>
    obtain ⟨r1, M1⟩ := a
    obtain ⟨rfl, h9⟩ := Prod.mk.inj (Option.some.inj hf)
    obtain ⟨rfl, rfl⟩ := Prod.mk.inj h9
    refine sm_calliC (va_runV (C := R_Mill) (As := [.int a0, .int a1, .int a2, .int a3, .int a4]) (rest := [.int 0, .ref (sm_a v 90)]) hC (sm_X_ret (c_Mill_define hfl hc)) (cwV 5 hC.2.2.2.2 (sm_good (sm_inV aw_408 aw_409 aw_410 aw_1 aw_411)) rfl rfl rfl (by decide +kernel) ⟨Nat.le_of_ble_eq_true rfl, Nat.le_of_ble_eq_true rfl⟩) (sm_preV hK hG (by decide) rfl rfl) rfl rfl hl.1 rfl (lv_room (Nat.le_of_ble_eq_true rfl)) d_Law_define_11 ⟨Nat.le_of_ble_eq_true rfl, Nat.le_of_ble_eq_true rfl⟩) hG (fun H locs hG => ?_)
    refine lv_i2l hx hb d_Law_define_14 rfl ?_
    refine sm_last hC hK hG sm_in0 d_Law_define_15 (fun H locs hG => ?_)
    refine lv_goto hx hb d_Law_define_16 rfl ?_
    refine lv_iconst (v := 0) hx hb d_Law_define_27 (by decide) ?_
    exact sm_iretC hC hr hlk hG d_Law_define_28
  | inr n =>
    by_cases h0 : n = 1
    · subst h0
      obtain ⟨rfl, h9⟩ := Prod.mk.inj (Option.some.inj hf)
      obtain ⟨rfl, rfl⟩ := Prod.mk.inj h9
      refine sm_callT (C := R_Mill) (n := 1) (hpc := 19) (As := [.int a0, .int a1, .int a2, .int a3, .int a4]) (rest := [.int 0, .ref (sm_a v 90)]) hC (c_Mill_define hfl hc) (cwV 5 hC.2.2.2.2 (sm_good (sm_inV aw_408 aw_409 aw_410 aw_1 aw_411)) rfl rfl rfl (by decide +kernel) ⟨Nat.le_of_ble_eq_true rfl, Nat.le_of_ble_eq_true rfl⟩) (sm_preV hK hG (by decide) rfl rfl) hG (fun U x cell g1 g2 g3 g4 g5 g6 g7 => sm_fd1 g6 hC.2.2.2.1 g1 g2 g7 htab rfl rfl (by decide) (hC.2.2.2.2 _ (List.mem_cons_of_mem _ aw_287)) g3 g4 g5) hl.1 rfl (Nat.le_of_ble_eq_true rfl) d_Law_define_11 ⟨Nat.le_of_ble_eq_true rfl, Nat.le_of_ble_eq_true rfl⟩ (fun H locs x hG => ?_)
      refine lv_astore hx hb d_Law_define_19 hl (Nat.le_of_ble_eq_true rfl) rfl (fun ls hl => ?_)
      refine lv_iconst (v := 1) hx hb d_Law_define_21 (by decide) ?_
      exact sm_iretC hC hr hlk hG d_Law_define_22
    have hf := sm_f h0 hf
    by_cases h1 : n = 2
    · subst h1
      obtain ⟨rfl, h9⟩ := Prod.mk.inj (Option.some.inj hf)
      obtain ⟨rfl, rfl⟩ := Prod.mk.inj h9
      refine sm_callT (C := R_Mill) (n := 2) (hpc := 23) (As := [.int a0, .int a1, .int a2, .int a3, .int a4]) (rest := [.int 0, .ref (sm_a v 90)]) hC (c_Mill_define hfl hc) (cwV 5 hC.2.2.2.2 (sm_good (sm_inV aw_408 aw_409 aw_410 aw_1 aw_411)) rfl rfl rfl (by decide +kernel) ⟨Nat.le_of_ble_eq_true rfl, Nat.le_of_ble_eq_true rfl⟩) (sm_preV hK hG (by decide) rfl rfl) hG (fun U x cell g1 g2 g3 g4 g5 g6 g7 => sm_fd2 g6 hC.2.2.2.1 g1 g2 g7 htab rfl rfl (by decide) (hC.2.2.2.2 _ (List.mem_cons_of_mem _ aw_287)) (va_Nc.of (hK.2.1 _ nw_no)) rfl (by decide) (hC.2.2.2.2 _ (List.mem_cons_of_mem _ aw_288)) g3 g4 g5) hl.1 rfl (Nat.le_of_ble_eq_true rfl) d_Law_define_11 ⟨Nat.le_of_ble_eq_true rfl, Nat.le_of_ble_eq_true rfl⟩ (fun H locs x hG => ?_)
      refine lv_astore hx hb d_Law_define_23 hl (Nat.le_of_ble_eq_true rfl) rfl (fun ls hl => ?_)
      refine lv_iconst (v := 2) hx hb d_Law_define_25 (by decide) ?_
      exact sm_iretC hC hr hlk hG d_Law_define_26
    have hf := sm_f h1 hf
    cases hf
def f_Law_fix (M : sm_M) (o : sm_O) (a0 : Int32) (a1 : Int32) (a2 : Int32) (a3 : Int32) (a4 : Int32) (a5 : Int32) : Option (Int32 × sm_M × sm_O) :=
  sm_b1 (f_Mill_fix M a0 a1 a2 a3 a4 a5) fun q => match q with
  | .inl a => some (0, a.2, vp_updL o 0 (Int32.toInt64 a.1))
  | .inr n => if n = 1 then some (1, M, o) else if n = 2 then some (2, M, o) else none
abbrev w_Law_fix : List Cond := Cond.codeWith y_Law_fix b_Law_fix 9 (some .int) [(0, 18, 21, 13), (0, 18, 25, 15)] :: sm_AW
abbrev rm_Law_fix : Room := { frames := 7, cells := 1, slots := 6, locals := 117 }
set_option maxHeartbeats 4000000 in
set_option maxRecDepth 100000 in
theorem c_Law_fix {l : Launch} {v : sm_V} {o o' : sm_O} {M M' : sm_M} {a0 : Int32} {a1 : Int32} {a2 : Int32} {a3 : Int32} {a4 : Int32} {a5 : Int32} {r : Int32} (hfl : l.flags = pinnedFlags ++ [noTraceFlag]) (hf : f_Law_fix M o a0 a1 a2 a3 a4 a5 = some (r, M', o')) : sm_Cw l y_Law_fix w_Law_fix rm_Law_fix v [.ref (sm_a v 0), .int a0, .int a1, .int a2, .int a3, .int a4, .int a5, .ref (sm_a v 90)] M o r M' o' := by
  refine sm_metW (cc := b_Law_fix) (nL := 9) (ret := some .int) (hh := [(0, 18, 21, 13), (0, 18, 25, 15)]) (by decide) rfl (Nat.le_of_ble_eq_true rfl) (fun p e s m args below meth c hC hr hlk htab hK hG ls hl => ?_)
  have hx := hC.1
  have hb := hC.2.1
  have hl : lv_has ls 9 [(0, .ref (sm_a v 0)), (1, .int a0), (2, .int a1), (3, .int a2), (4, .int a3), (5, .int a4), (6, .int a5), (7, .ref (sm_a v 90))] := hl
  unfold f_Law_fix at hf
  obtain ⟨q, hc, hf⟩ := sm_of_b1 hf
  refine lv_aload hx hb d_Law_fix_0 (lv_at hl 7 rfl) ?_
  refine lv_iconst (v := 0) hx hb d_Law_fix_2 (by decide) ?_
  refine lv_aload_n hx hb d_Law_fix_3 rfl (lv_at hl 0 rfl) ?_
  refine lv_iload_n hx hb d_Law_fix_4 rfl (lv_at hl 1 rfl) ?_
  refine lv_iload_n hx hb d_Law_fix_5 rfl (lv_at hl 2 rfl) ?_
  refine lv_iload_n hx hb d_Law_fix_6 rfl (lv_at hl 3 rfl) ?_
  refine lv_iload hx hb d_Law_fix_7 (lv_at hl 4 rfl) ?_
  refine lv_iload hx hb d_Law_fix_9 (lv_at hl 5 rfl) ?_
  refine lv_iload hx hb d_Law_fix_11 (lv_at hl 6 rfl) ?_
  cases q with
  | inl a =>
    obtain ⟨r1, M1⟩ := a
    obtain ⟨rfl, h9⟩ := Prod.mk.inj (Option.some.inj hf)
    obtain ⟨rfl, rfl⟩ := Prod.mk.inj h9
    refine sm_calliC (va_runV (C := R_Mill) (As := [.int a0, .int a1, .int a2, .int a3, .int a4, .int a5]) (rest := [.int 0, .ref (sm_a v 90)]) hC (sm_X_ret (c_Mill_fix hfl hc)) (cwV 6 hC.2.2.2.2 (sm_good (sm_inV aw_426 aw_427 aw_428 aw_1 aw_429)) rfl rfl rfl (by decide +kernel) ⟨Nat.le_of_ble_eq_true rfl, Nat.le_of_ble_eq_true rfl⟩) (sm_preV hK hG (by decide) rfl rfl) rfl rfl hl.1 rfl (lv_room (Nat.le_of_ble_eq_true rfl)) d_Law_fix_13 ⟨Nat.le_of_ble_eq_true rfl, Nat.le_of_ble_eq_true rfl⟩) hG (fun H locs hG => ?_)
    refine lv_i2l hx hb d_Law_fix_16 rfl ?_
    refine sm_last hC hK hG sm_in0 d_Law_fix_17 (fun H locs hG => ?_)
    refine lv_goto hx hb d_Law_fix_18 rfl ?_
    refine lv_iconst (v := 0) hx hb d_Law_fix_29 (by decide) ?_
    exact sm_iretC hC hr hlk hG d_Law_fix_30
  | inr n =>
    by_cases h0 : n = 1
    · subst h0
      obtain ⟨rfl, h9⟩ := Prod.mk.inj (Option.some.inj hf)
      obtain ⟨rfl, rfl⟩ := Prod.mk.inj h9
      refine sm_callT (C := R_Mill) (n := 1) (hpc := 21) (As := [.int a0, .int a1, .int a2, .int a3, .int a4, .int a5]) (rest := [.int 0, .ref (sm_a v 90)]) hC (c_Mill_fix hfl hc) (cwV 6 hC.2.2.2.2 (sm_good (sm_inV aw_426 aw_427 aw_428 aw_1 aw_429)) rfl rfl rfl (by decide +kernel) ⟨Nat.le_of_ble_eq_true rfl, Nat.le_of_ble_eq_true rfl⟩) (sm_preV hK hG (by decide) rfl rfl) hG (fun U x cell g1 g2 g3 g4 g5 g6 g7 => sm_fd1 g6 hC.2.2.2.1 g1 g2 g7 htab rfl rfl (by decide) (hC.2.2.2.2 _ (List.mem_cons_of_mem _ aw_287)) g3 g4 g5) hl.1 rfl (Nat.le_of_ble_eq_true rfl) d_Law_fix_13 ⟨Nat.le_of_ble_eq_true rfl, Nat.le_of_ble_eq_true rfl⟩ (fun H locs x hG => ?_)
      refine lv_astore hx hb d_Law_fix_21 hl (Nat.le_of_ble_eq_true rfl) rfl (fun ls hl => ?_)
      refine lv_iconst (v := 1) hx hb d_Law_fix_23 (by decide) ?_
      exact sm_iretC hC hr hlk hG d_Law_fix_24
    have hf := sm_f h0 hf
    by_cases h1 : n = 2
    · subst h1
      obtain ⟨rfl, h9⟩ := Prod.mk.inj (Option.some.inj hf)
      obtain ⟨rfl, rfl⟩ := Prod.mk.inj h9
      refine sm_callT (C := R_Mill) (n := 2) (hpc := 25) (As := [.int a0, .int a1, .int a2, .int a3, .int a4, .int a5]) (rest := [.int 0, .ref (sm_a v 90)]) hC (c_Mill_fix hfl hc) (cwV 6 hC.2.2.2.2 (sm_good (sm_inV aw_426 aw_427 aw_428 aw_1 aw_429)) rfl rfl rfl (by decide +kernel) ⟨Nat.le_of_ble_eq_true rfl, Nat.le_of_ble_eq_true rfl⟩) (sm_preV hK hG (by decide) rfl rfl) hG (fun U x cell g1 g2 g3 g4 g5 g6 g7 => sm_fd2 g6 hC.2.2.2.1 g1 g2 g7 htab rfl rfl (by decide) (hC.2.2.2.2 _ (List.mem_cons_of_mem _ aw_287)) (va_Nc.of (hK.2.1 _ nw_no)) rfl (by decide) (hC.2.2.2.2 _ (List.mem_cons_of_mem _ aw_288)) g3 g4 g5) hl.1 rfl (Nat.le_of_ble_eq_true rfl) d_Law_fix_13 ⟨Nat.le_of_ble_eq_true rfl, Nat.le_of_ble_eq_true rfl⟩ (fun H locs x hG => ?_)
      refine lv_astore hx hb d_Law_fix_25 hl (Nat.le_of_ble_eq_true rfl) rfl (fun ls hl => ?_)
      refine lv_iconst (v := 2) hx hb d_Law_fix_27 (by decide) ?_
      exact sm_iretC hC hr hlk hG d_Law_fix_28
    have hf := sm_f h1 hf
    cases hf
def f_Law_clear (M : sm_M) (o : sm_O) (a0 : Int32) : Option (Int32 × sm_M × sm_O) :=
  sm_b1 (f_Mill_clear M a0) fun q => match q with
  | .inl a => some (0, a.2, vp_updL o 0 (if a.1 = 0 then (0 : Int64) else (1 : Int64)))
  | .inr n => if n = 1 then some (1, M, o) else none
abbrev w_Law_clear : List Cond := Cond.codeWith y_Law_clear b_Law_clear 4 (some .int) [(0, 16, 19, 13)] :: sm_AW
abbrev rm_Law_clear : Room := { frames := 7, cells := 1, slots := 6, locals := 111 }
set_option maxHeartbeats 4000000 in
set_option maxRecDepth 100000 in
theorem c_Law_clear {l : Launch} {v : sm_V} {o o' : sm_O} {M M' : sm_M} {a0 : Int32} {r : Int32} (hfl : l.flags = pinnedFlags ++ [noTraceFlag]) (hf : f_Law_clear M o a0 = some (r, M', o')) : sm_Cw l y_Law_clear w_Law_clear rm_Law_clear v [.ref (sm_a v 0), .int a0, .ref (sm_a v 90)] M o r M' o' := by
  refine sm_metW (cc := b_Law_clear) (nL := 4) (ret := some .int) (hh := [(0, 16, 19, 13)]) (by decide) rfl (Nat.le_of_ble_eq_true rfl) (fun p e s m args below meth c hC hr hlk htab hK hG ls hl => ?_)
  have hx := hC.1
  have hb := hC.2.1
  have hl : lv_has ls 4 [(0, .ref (sm_a v 0)), (1, .int a0), (2, .ref (sm_a v 90))] := hl
  unfold f_Law_clear at hf
  obtain ⟨q, hc, hf⟩ := sm_of_b1 hf
  refine lv_aload_n hx hb d_Law_clear_0 rfl (lv_at hl 2 rfl) ?_
  refine lv_iconst (v := 0) hx hb d_Law_clear_1 (by decide) ?_
  refine lv_aload_n hx hb d_Law_clear_2 rfl (lv_at hl 0 rfl) ?_
  refine lv_iload_n hx hb d_Law_clear_3 rfl (lv_at hl 1 rfl) ?_
  cases q with
  | inl a =>
    obtain ⟨r1, M1⟩ := a
    obtain ⟨rfl, h9⟩ := Prod.mk.inj (Option.some.inj hf)
    obtain ⟨rfl, rfl⟩ := Prod.mk.inj h9
    refine sm_calliC (va_runV (C := R_Mill) (As := [.int a0]) (rest := [.int 0, .ref (sm_a v 90)]) hC (sm_X_ret (c_Mill_clear hfl hc)) (cwV 1 hC.2.2.2.2 (sm_good (sm_inV aw_437 aw_438 aw_439 aw_1 aw_440)) rfl rfl rfl (by decide +kernel) ⟨Nat.le_of_ble_eq_true rfl, Nat.le_of_ble_eq_true rfl⟩) (sm_preV hK hG (by decide) rfl rfl) rfl rfl hl.1 rfl (lv_room (Nat.le_of_ble_eq_true rfl)) d_Law_clear_4 ⟨Nat.le_of_ble_eq_true rfl, Nat.le_of_ble_eq_true rfl⟩) hG (fun H locs hG => ?_)
    refine lv_if_eq hx hb d_Law_clear_7 rfl (fun h0 => ?_) (fun h0 => ?_)
    · subst h0
      refine lv_lconst (v := 0) hx hb d_Law_clear_14 (by decide) ?_
      refine sm_last hC hK hG sm_in0 d_Law_clear_15 (fun H locs hG => ?_)
      refine lv_goto hx hb d_Law_clear_16 rfl ?_
      refine lv_iconst (v := 0) hx hb d_Law_clear_22 (by decide) ?_
      exact sm_iretC hC hr hlk hG d_Law_clear_23
    · simp only [if_neg h0]
      refine lv_lconst (v := 1) hx hb d_Law_clear_10 (by decide) ?_
      refine lv_goto hx hb d_Law_clear_11 rfl ?_
      refine sm_last hC hK hG sm_in0 d_Law_clear_15 (fun H locs hG => ?_)
      refine lv_goto hx hb d_Law_clear_16 rfl ?_
      refine lv_iconst (v := 0) hx hb d_Law_clear_22 (by decide) ?_
      exact sm_iretC hC hr hlk hG d_Law_clear_23
  | inr n =>
    by_cases h0 : n = 1
    · subst h0
      obtain ⟨rfl, h9⟩ := Prod.mk.inj (Option.some.inj hf)
      obtain ⟨rfl, rfl⟩ := Prod.mk.inj h9
      refine sm_callT (C := R_Mill) (n := 1) (hpc := 19) (As := [.int a0]) (rest := [.int 0, .ref (sm_a v 90)]) hC (c_Mill_clear hfl hc) (cwV 1 hC.2.2.2.2 (sm_good (sm_inV aw_437 aw_438 aw_439 aw_1 aw_440)) rfl rfl rfl (by decide +kernel) ⟨Nat.le_of_ble_eq_true rfl, Nat.le_of_ble_eq_true rfl⟩) (sm_preV hK hG (by decide) rfl rfl) hG (fun U x cell g1 g2 g3 g4 g5 g6 g7 => sm_fd1 g6 hC.2.2.2.1 g1 g2 g7 htab rfl rfl (by decide) (hC.2.2.2.2 _ (List.mem_cons_of_mem _ aw_287)) g3 g4 g5) hl.1 rfl (Nat.le_of_ble_eq_true rfl) d_Law_clear_4 ⟨Nat.le_of_ble_eq_true rfl, Nat.le_of_ble_eq_true rfl⟩ (fun H locs x hG => ?_)
      refine lv_astore_n hx hb d_Law_clear_19 rfl hl (Nat.le_of_ble_eq_true rfl) rfl (fun ls hl => ?_)
      refine lv_iconst (v := 1) hx hb d_Law_clear_20 (by decide) ?_
      exact sm_iretC hC hr hlk hG d_Law_clear_21
    have hf := sm_f h0 hf
    cases hf
def f_Law_link (M : sm_M) (o : sm_O) (a0 : Int32) (a1 : Int32) : Option (Int32 × sm_M × sm_O) :=
  sm_b1 (f_Mill_link M a0 a1) fun q => match q with
  | .inl a => some (0, a.2, vp_updL o 0 (Int32.toInt64 a.1))
  | .inr n => if n = 1 then some (1, M, o) else none
abbrev w_Law_link : List Cond := Cond.codeWith y_Law_link b_Law_link 5 (some .int) [(0, 10, 13, 13)] :: sm_AW
abbrev rm_Law_link : Room := { frames := 8, cells := 1, slots := 6, locals := 184 }
set_option maxHeartbeats 4000000 in
set_option maxRecDepth 100000 in
theorem c_Law_link {l : Launch} {v : sm_V} {o o' : sm_O} {M M' : sm_M} {a0 : Int32} {a1 : Int32} {r : Int32} (hfl : l.flags = pinnedFlags ++ [noTraceFlag]) (hf : f_Law_link M o a0 a1 = some (r, M', o')) : sm_Cw l y_Law_link w_Law_link rm_Law_link v [.ref (sm_a v 0), .int a0, .int a1, .ref (sm_a v 90)] M o r M' o' := by
  refine sm_metW (cc := b_Law_link) (nL := 5) (ret := some .int) (hh := [(0, 10, 13, 13)]) (by decide) rfl (Nat.le_of_ble_eq_true rfl) (fun p e s m args below meth c hC hr hlk htab hK hG ls hl => ?_)
  have hx := hC.1
  have hb := hC.2.1
  have hl : lv_has ls 5 [(0, .ref (sm_a v 0)), (1, .int a0), (2, .int a1), (3, .ref (sm_a v 90))] := hl
  unfold f_Law_link at hf
  obtain ⟨q, hc, hf⟩ := sm_of_b1 hf
  refine lv_aload_n hx hb d_Law_link_0 rfl (lv_at hl 3 rfl) ?_
  refine lv_iconst (v := 0) hx hb d_Law_link_1 (by decide) ?_
  refine lv_aload_n hx hb d_Law_link_2 rfl (lv_at hl 0 rfl) ?_
  refine lv_iload_n hx hb d_Law_link_3 rfl (lv_at hl 1 rfl) ?_
  refine lv_iload_n hx hb d_Law_link_4 rfl (lv_at hl 2 rfl) ?_
  cases q with
  | inl a =>
    obtain ⟨r1, M1⟩ := a
    obtain ⟨rfl, h9⟩ := Prod.mk.inj (Option.some.inj hf)
    obtain ⟨rfl, rfl⟩ := Prod.mk.inj h9
    refine sm_calliC (va_runV (C := R_Mill) (As := [.int a0, .int a1]) (rest := [.int 0, .ref (sm_a v 90)]) hC (sm_X_ret (c_Mill_link hfl hc)) (cwV 2 hC.2.2.2.2 (sm_good (sm_inV aw_448 aw_449 aw_450 aw_1 aw_451)) rfl rfl rfl (by decide +kernel) ⟨Nat.le_of_ble_eq_true rfl, Nat.le_of_ble_eq_true rfl⟩) (sm_preV hK hG (by decide) rfl rfl) rfl rfl hl.1 rfl (lv_room (Nat.le_of_ble_eq_true rfl)) d_Law_link_5 ⟨Nat.le_of_ble_eq_true rfl, Nat.le_of_ble_eq_true rfl⟩) hG (fun H locs hG => ?_)
    refine lv_i2l hx hb d_Law_link_8 rfl ?_
    refine sm_last hC hK hG sm_in0 d_Law_link_9 (fun H locs hG => ?_)
    refine lv_goto hx hb d_Law_link_10 rfl ?_
    refine lv_iconst (v := 0) hx hb d_Law_link_17 (by decide) ?_
    exact sm_iretC hC hr hlk hG d_Law_link_18
  | inr n =>
    by_cases h0 : n = 1
    · subst h0
      obtain ⟨rfl, h9⟩ := Prod.mk.inj (Option.some.inj hf)
      obtain ⟨rfl, rfl⟩ := Prod.mk.inj h9
      refine sm_callT (C := R_Mill) (n := 1) (hpc := 13) (As := [.int a0, .int a1]) (rest := [.int 0, .ref (sm_a v 90)]) hC (c_Mill_link hfl hc) (cwV 2 hC.2.2.2.2 (sm_good (sm_inV aw_448 aw_449 aw_450 aw_1 aw_451)) rfl rfl rfl (by decide +kernel) ⟨Nat.le_of_ble_eq_true rfl, Nat.le_of_ble_eq_true rfl⟩) (sm_preV hK hG (by decide) rfl rfl) hG (fun U x cell g1 g2 g3 g4 g5 g6 g7 => sm_fd1 g6 hC.2.2.2.1 g1 g2 g7 htab rfl rfl (by decide) (hC.2.2.2.2 _ (List.mem_cons_of_mem _ aw_287)) g3 g4 g5) hl.1 rfl (Nat.le_of_ble_eq_true rfl) d_Law_link_5 ⟨Nat.le_of_ble_eq_true rfl, Nat.le_of_ble_eq_true rfl⟩ (fun H locs x hG => ?_)
      refine lv_astore hx hb d_Law_link_13 hl (Nat.le_of_ble_eq_true rfl) rfl (fun ls hl => ?_)
      refine lv_iconst (v := 1) hx hb d_Law_link_15 (by decide) ?_
      exact sm_iretC hC hr hlk hG d_Law_link_16
    have hf := sm_f h0 hf
    cases hf
def f_Law_alter (M : sm_M) (o : sm_O) (a0 : Int32) (a1 : Int32) : Option (Int32 × sm_M × sm_O) :=
  sm_b1 (f_Mill_alter M a0 a1) fun q => match q with
  | .inl a => some (0, a.2, vp_updL o 0 (if a.1 = 0 then (0 : Int64) else (1 : Int64)))
  | .inr n => if n = 1 then some (1, M, o) else none
abbrev w_Law_alter : List Cond := Cond.codeWith y_Law_alter b_Law_alter 5 (some .int) [(0, 17, 20, 13)] :: sm_AW
abbrev rm_Law_alter : Room := { frames := 7, cells := 1, slots := 6, locals := 112 }
set_option maxHeartbeats 4000000 in
set_option maxRecDepth 100000 in
theorem c_Law_alter {l : Launch} {v : sm_V} {o o' : sm_O} {M M' : sm_M} {a0 : Int32} {a1 : Int32} {r : Int32} (hfl : l.flags = pinnedFlags ++ [noTraceFlag]) (hf : f_Law_alter M o a0 a1 = some (r, M', o')) : sm_Cw l y_Law_alter w_Law_alter rm_Law_alter v [.ref (sm_a v 0), .int a0, .int a1, .ref (sm_a v 90)] M o r M' o' := by
  refine sm_metW (cc := b_Law_alter) (nL := 5) (ret := some .int) (hh := [(0, 17, 20, 13)]) (by decide) rfl (Nat.le_of_ble_eq_true rfl) (fun p e s m args below meth c hC hr hlk htab hK hG ls hl => ?_)
  have hx := hC.1
  have hb := hC.2.1
  have hl : lv_has ls 5 [(0, .ref (sm_a v 0)), (1, .int a0), (2, .int a1), (3, .ref (sm_a v 90))] := hl
  unfold f_Law_alter at hf
  obtain ⟨q, hc, hf⟩ := sm_of_b1 hf
  refine lv_aload_n hx hb d_Law_alter_0 rfl (lv_at hl 3 rfl) ?_
  refine lv_iconst (v := 0) hx hb d_Law_alter_1 (by decide) ?_
  refine lv_aload_n hx hb d_Law_alter_2 rfl (lv_at hl 0 rfl) ?_
  refine lv_iload_n hx hb d_Law_alter_3 rfl (lv_at hl 1 rfl) ?_
  refine lv_iload_n hx hb d_Law_alter_4 rfl (lv_at hl 2 rfl) ?_
  cases q with
  | inl a =>
    obtain ⟨r1, M1⟩ := a
    obtain ⟨rfl, h9⟩ := Prod.mk.inj (Option.some.inj hf)
    obtain ⟨rfl, rfl⟩ := Prod.mk.inj h9
    refine sm_calliC (va_runV (C := R_Mill) (As := [.int a0, .int a1]) (rest := [.int 0, .ref (sm_a v 90)]) hC (sm_X_ret (c_Mill_alter hfl hc)) (cwV 2 hC.2.2.2.2 (sm_good (sm_inV aw_565 aw_566 aw_567 aw_1 aw_568)) rfl rfl rfl (by decide +kernel) ⟨Nat.le_of_ble_eq_true rfl, Nat.le_of_ble_eq_true rfl⟩) (sm_preV hK hG (by decide) rfl rfl) rfl rfl hl.1 rfl (lv_room (Nat.le_of_ble_eq_true rfl)) d_Law_alter_5 ⟨Nat.le_of_ble_eq_true rfl, Nat.le_of_ble_eq_true rfl⟩) hG (fun H locs hG => ?_)
    refine lv_if_eq hx hb d_Law_alter_8 rfl (fun h0 => ?_) (fun h0 => ?_)
    · subst h0
      refine lv_lconst (v := 0) hx hb d_Law_alter_15 (by decide) ?_
      refine sm_last hC hK hG sm_in0 d_Law_alter_16 (fun H locs hG => ?_)
      refine lv_goto hx hb d_Law_alter_17 rfl ?_
      refine lv_iconst (v := 0) hx hb d_Law_alter_24 (by decide) ?_
      exact sm_iretC hC hr hlk hG d_Law_alter_25
    · simp only [if_neg h0]
      refine lv_lconst (v := 1) hx hb d_Law_alter_11 (by decide) ?_
      refine lv_goto hx hb d_Law_alter_12 rfl ?_
      refine sm_last hC hK hG sm_in0 d_Law_alter_16 (fun H locs hG => ?_)
      refine lv_goto hx hb d_Law_alter_17 rfl ?_
      refine lv_iconst (v := 0) hx hb d_Law_alter_24 (by decide) ?_
      exact sm_iretC hC hr hlk hG d_Law_alter_25
  | inr n =>
    by_cases h0 : n = 1
    · subst h0
      obtain ⟨rfl, h9⟩ := Prod.mk.inj (Option.some.inj hf)
      obtain ⟨rfl, rfl⟩ := Prod.mk.inj h9
      refine sm_callT (C := R_Mill) (n := 1) (hpc := 20) (As := [.int a0, .int a1]) (rest := [.int 0, .ref (sm_a v 90)]) hC (c_Mill_alter hfl hc) (cwV 2 hC.2.2.2.2 (sm_good (sm_inV aw_565 aw_566 aw_567 aw_1 aw_568)) rfl rfl rfl (by decide +kernel) ⟨Nat.le_of_ble_eq_true rfl, Nat.le_of_ble_eq_true rfl⟩) (sm_preV hK hG (by decide) rfl rfl) hG (fun U x cell g1 g2 g3 g4 g5 g6 g7 => sm_fd1 g6 hC.2.2.2.1 g1 g2 g7 htab rfl rfl (by decide) (hC.2.2.2.2 _ (List.mem_cons_of_mem _ aw_287)) g3 g4 g5) hl.1 rfl (Nat.le_of_ble_eq_true rfl) d_Law_alter_5 ⟨Nat.le_of_ble_eq_true rfl, Nat.le_of_ble_eq_true rfl⟩ (fun H locs x hG => ?_)
      refine lv_astore hx hb d_Law_alter_20 hl (Nat.le_of_ble_eq_true rfl) rfl (fun ls hl => ?_)
      refine lv_iconst (v := 1) hx hb d_Law_alter_22 (by decide) ?_
      exact sm_iretC hC hr hlk hG d_Law_alter_23
    have hf := sm_f h0 hf
    cases hf
def f_Law_stretch (M : sm_M) (o : sm_O) (a0 : Int32) : Option (Int32 × sm_M × sm_O) :=
  sm_b1 (f_Mill_stretch M a0) fun q => match q with
  | .inl a => some (0, a.2, vp_updL o 0 (Int32.toInt64 a.1))
  | .inr n => if n = 1 then some (1, M, o) else none
abbrev w_Law_stretch : List Cond := Cond.codeWith y_Law_stretch b_Law_stretch 4 (some .int) [(0, 9, 12, 13)] :: sm_AW
abbrev rm_Law_stretch : Room := { frames := 7, cells := 1, slots := 6, locals := 113 }
set_option maxHeartbeats 4000000 in
set_option maxRecDepth 100000 in
theorem c_Law_stretch {l : Launch} {v : sm_V} {o o' : sm_O} {M M' : sm_M} {a0 : Int32} {r : Int32} (hfl : l.flags = pinnedFlags ++ [noTraceFlag]) (hf : f_Law_stretch M o a0 = some (r, M', o')) : sm_Cw l y_Law_stretch w_Law_stretch rm_Law_stretch v [.ref (sm_a v 0), .int a0, .ref (sm_a v 90)] M o r M' o' := by
  refine sm_metW (cc := b_Law_stretch) (nL := 4) (ret := some .int) (hh := [(0, 9, 12, 13)]) (by decide) rfl (Nat.le_of_ble_eq_true rfl) (fun p e s m args below meth c hC hr hlk htab hK hG ls hl => ?_)
  have hx := hC.1
  have hb := hC.2.1
  have hl : lv_has ls 4 [(0, .ref (sm_a v 0)), (1, .int a0), (2, .ref (sm_a v 90))] := hl
  unfold f_Law_stretch at hf
  obtain ⟨q, hc, hf⟩ := sm_of_b1 hf
  refine lv_aload_n hx hb d_Law_stretch_0 rfl (lv_at hl 2 rfl) ?_
  refine lv_iconst (v := 0) hx hb d_Law_stretch_1 (by decide) ?_
  refine lv_aload_n hx hb d_Law_stretch_2 rfl (lv_at hl 0 rfl) ?_
  refine lv_iload_n hx hb d_Law_stretch_3 rfl (lv_at hl 1 rfl) ?_
  cases q with
  | inl a =>
    obtain ⟨r1, M1⟩ := a
    obtain ⟨rfl, h9⟩ := Prod.mk.inj (Option.some.inj hf)
    obtain ⟨rfl, rfl⟩ := Prod.mk.inj h9
    refine sm_calliC (va_runV (C := R_Mill) (As := [.int a0]) (rest := [.int 0, .ref (sm_a v 90)]) hC (sm_X_ret (c_Mill_stretch hfl hc)) (cwV 1 hC.2.2.2.2 (sm_good (sm_inV aw_572 aw_573 aw_574 aw_1 aw_575)) rfl rfl rfl (by decide +kernel) ⟨Nat.le_of_ble_eq_true rfl, Nat.le_of_ble_eq_true rfl⟩) (sm_preV hK hG (by decide) rfl rfl) rfl rfl hl.1 rfl (lv_room (Nat.le_of_ble_eq_true rfl)) d_Law_stretch_4 ⟨Nat.le_of_ble_eq_true rfl, Nat.le_of_ble_eq_true rfl⟩) hG (fun H locs hG => ?_)
    refine lv_i2l hx hb d_Law_stretch_7 rfl ?_
    refine sm_last hC hK hG sm_in0 d_Law_stretch_8 (fun H locs hG => ?_)
    refine lv_goto hx hb d_Law_stretch_9 rfl ?_
    refine lv_iconst (v := 0) hx hb d_Law_stretch_15 (by decide) ?_
    exact sm_iretC hC hr hlk hG d_Law_stretch_16
  | inr n =>
    by_cases h0 : n = 1
    · subst h0
      obtain ⟨rfl, h9⟩ := Prod.mk.inj (Option.some.inj hf)
      obtain ⟨rfl, rfl⟩ := Prod.mk.inj h9
      refine sm_callT (C := R_Mill) (n := 1) (hpc := 12) (As := [.int a0]) (rest := [.int 0, .ref (sm_a v 90)]) hC (c_Mill_stretch hfl hc) (cwV 1 hC.2.2.2.2 (sm_good (sm_inV aw_572 aw_573 aw_574 aw_1 aw_575)) rfl rfl rfl (by decide +kernel) ⟨Nat.le_of_ble_eq_true rfl, Nat.le_of_ble_eq_true rfl⟩) (sm_preV hK hG (by decide) rfl rfl) hG (fun U x cell g1 g2 g3 g4 g5 g6 g7 => sm_fd1 g6 hC.2.2.2.1 g1 g2 g7 htab rfl rfl (by decide) (hC.2.2.2.2 _ (List.mem_cons_of_mem _ aw_287)) g3 g4 g5) hl.1 rfl (Nat.le_of_ble_eq_true rfl) d_Law_stretch_4 ⟨Nat.le_of_ble_eq_true rfl, Nat.le_of_ble_eq_true rfl⟩ (fun H locs x hG => ?_)
      refine lv_astore_n hx hb d_Law_stretch_12 rfl hl (Nat.le_of_ble_eq_true rfl) rfl (fun ls hl => ?_)
      refine lv_iconst (v := 1) hx hb d_Law_stretch_13 (by decide) ?_
      exact sm_iretC hC hr hlk hG d_Law_stretch_14
    have hf := sm_f h0 hf
    cases hf
def f_Law_run (M : sm_M) (o : sm_O) (a0 : Int32) : Option (Int32 × sm_M × sm_O) :=
  sm_b1 (f_Mill_run M a0) fun q => match q with
  | .inl a => some (0, a.2, vp_updL o 0 (Int32.toInt64 a.1))
  | .inr n => if n = 1 then some (1, M, o) else if n = 2 then some (2, M, o) else none
abbrev w_Law_run : List Cond := Cond.codeWith y_Law_run b_Law_run 4 (some .int) [(0, 9, 12, 13), (0, 9, 15, 15)] :: sm_AW
abbrev rm_Law_run : Room := { frames := 7, cells := 1, slots := 6, locals := 158 }
set_option maxHeartbeats 4000000 in
set_option maxRecDepth 100000 in
theorem c_Law_run {l : Launch} {v : sm_V} {o o' : sm_O} {M M' : sm_M} {a0 : Int32} {r : Int32} (hfl : l.flags = pinnedFlags ++ [noTraceFlag]) (hf : f_Law_run M o a0 = some (r, M', o')) : sm_Cw l y_Law_run w_Law_run rm_Law_run v [.ref (sm_a v 0), .int a0, .ref (sm_a v 90)] M o r M' o' := by
  refine sm_metW (cc := b_Law_run) (nL := 4) (ret := some .int) (hh := [(0, 9, 12, 13), (0, 9, 15, 15)]) (by decide) rfl (Nat.le_of_ble_eq_true rfl) (fun p e s m args below meth c hC hr hlk htab hK hG ls hl => ?_)
  have hx := hC.1
  have hb := hC.2.1
  have hl : lv_has ls 4 [(0, .ref (sm_a v 0)), (1, .int a0), (2, .ref (sm_a v 90))] := hl
  unfold f_Law_run at hf
  obtain ⟨q, hc, hf⟩ := sm_of_b1 hf
  refine lv_aload_n hx hb d_Law_run_0 rfl (lv_at hl 2 rfl) ?_
  refine lv_iconst (v := 0) hx hb d_Law_run_1 (by decide) ?_
  refine lv_aload_n hx hb d_Law_run_2 rfl (lv_at hl 0 rfl) ?_
  refine lv_iload_n hx hb d_Law_run_3 rfl (lv_at hl 1 rfl) ?_
  cases q with
  | inl a =>
    obtain ⟨r1, M1⟩ := a
    obtain ⟨rfl, h9⟩ := Prod.mk.inj (Option.some.inj hf)
    obtain ⟨rfl, rfl⟩ := Prod.mk.inj h9
    refine sm_calliC (va_runV (C := R_Mill) (As := [.int a0]) (rest := [.int 0, .ref (sm_a v 90)]) hC (sm_X_ret (c_Mill_run hfl hc)) (cwV 1 hC.2.2.2.2 (sm_good (sm_inV aw_581 aw_582 aw_583 aw_1 aw_584)) rfl rfl rfl (by decide +kernel) ⟨Nat.le_of_ble_eq_true rfl, Nat.le_of_ble_eq_true rfl⟩) (sm_preV hK hG (by decide) rfl rfl) rfl rfl hl.1 rfl (lv_room (Nat.le_of_ble_eq_true rfl)) d_Law_run_4 ⟨Nat.le_of_ble_eq_true rfl, Nat.le_of_ble_eq_true rfl⟩) hG (fun H locs hG => ?_)
    refine lv_i2l hx hb d_Law_run_7 rfl ?_
    refine sm_last hC hK hG sm_in0 d_Law_run_8 (fun H locs hG => ?_)
    refine lv_goto hx hb d_Law_run_9 rfl ?_
    refine lv_iconst (v := 0) hx hb d_Law_run_18 (by decide) ?_
    exact sm_iretC hC hr hlk hG d_Law_run_19
  | inr n =>
    by_cases h0 : n = 1
    · subst h0
      obtain ⟨rfl, h9⟩ := Prod.mk.inj (Option.some.inj hf)
      obtain ⟨rfl, rfl⟩ := Prod.mk.inj h9
      refine sm_callT (C := R_Mill) (n := 1) (hpc := 12) (As := [.int a0]) (rest := [.int 0, .ref (sm_a v 90)]) hC (c_Mill_run hfl hc) (cwV 1 hC.2.2.2.2 (sm_good (sm_inV aw_581 aw_582 aw_583 aw_1 aw_584)) rfl rfl rfl (by decide +kernel) ⟨Nat.le_of_ble_eq_true rfl, Nat.le_of_ble_eq_true rfl⟩) (sm_preV hK hG (by decide) rfl rfl) hG (fun U x cell g1 g2 g3 g4 g5 g6 g7 => sm_fd1 g6 hC.2.2.2.1 g1 g2 g7 htab rfl rfl (by decide) (hC.2.2.2.2 _ (List.mem_cons_of_mem _ aw_287)) g3 g4 g5) hl.1 rfl (Nat.le_of_ble_eq_true rfl) d_Law_run_4 ⟨Nat.le_of_ble_eq_true rfl, Nat.le_of_ble_eq_true rfl⟩ (fun H locs x hG => ?_)
      refine lv_astore_n hx hb d_Law_run_12 rfl hl (Nat.le_of_ble_eq_true rfl) rfl (fun ls hl => ?_)
      refine lv_iconst (v := 1) hx hb d_Law_run_13 (by decide) ?_
      exact sm_iretC hC hr hlk hG d_Law_run_14
    have hf := sm_f h0 hf
    by_cases h1 : n = 2
    · subst h1
      obtain ⟨rfl, h9⟩ := Prod.mk.inj (Option.some.inj hf)
      obtain ⟨rfl, rfl⟩ := Prod.mk.inj h9
      refine sm_callT (C := R_Mill) (n := 2) (hpc := 15) (As := [.int a0]) (rest := [.int 0, .ref (sm_a v 90)]) hC (c_Mill_run hfl hc) (cwV 1 hC.2.2.2.2 (sm_good (sm_inV aw_581 aw_582 aw_583 aw_1 aw_584)) rfl rfl rfl (by decide +kernel) ⟨Nat.le_of_ble_eq_true rfl, Nat.le_of_ble_eq_true rfl⟩) (sm_preV hK hG (by decide) rfl rfl) hG (fun U x cell g1 g2 g3 g4 g5 g6 g7 => sm_fd2 g6 hC.2.2.2.1 g1 g2 g7 htab rfl rfl (by decide) (hC.2.2.2.2 _ (List.mem_cons_of_mem _ aw_287)) (va_Nc.of (hK.2.1 _ nw_no)) rfl (by decide) (hC.2.2.2.2 _ (List.mem_cons_of_mem _ aw_288)) g3 g4 g5) hl.1 rfl (Nat.le_of_ble_eq_true rfl) d_Law_run_4 ⟨Nat.le_of_ble_eq_true rfl, Nat.le_of_ble_eq_true rfl⟩ (fun H locs x hG => ?_)
      refine lv_astore_n hx hb d_Law_run_15 rfl hl (Nat.le_of_ble_eq_true rfl) rfl (fun ls hl => ?_)
      refine lv_iconst (v := 2) hx hb d_Law_run_16 (by decide) ?_
      exact sm_iretC hC hr hlk hG d_Law_run_17
    have hf := sm_f h1 hf
    cases hf
def f_Law_memory (M : sm_M) (o : sm_O) (a0 : Int32) : Option (Int32 × sm_M × sm_O) :=
  sm_b1 (f_Mill_memory M a0) fun q => match q with
  | .inl a => some (0, a.2, vp_updL o 0 (Int32.toInt64 a.1))
  | .inr n => if n = 3 then some (1, M, o) else none
abbrev w_Law_memory : List Cond := Cond.codeWith y_Law_memory b_Law_memory 4 (some .int) [(0, 9, 12, 50)] :: sm_AW
abbrev rm_Law_memory : Room := { frames := 7, cells := 1, slots := 6, locals := 112 }
set_option maxHeartbeats 4000000 in
set_option maxRecDepth 100000 in
theorem c_Law_memory {l : Launch} {v : sm_V} {o o' : sm_O} {M M' : sm_M} {a0 : Int32} {r : Int32} (hfl : l.flags = pinnedFlags ++ [noTraceFlag]) (hf : f_Law_memory M o a0 = some (r, M', o')) : sm_Cw l y_Law_memory w_Law_memory rm_Law_memory v [.ref (sm_a v 0), .int a0, .ref (sm_a v 90)] M o r M' o' := by
  refine sm_metW (cc := b_Law_memory) (nL := 4) (ret := some .int) (hh := [(0, 9, 12, 50)]) (by decide) rfl (Nat.le_of_ble_eq_true rfl) (fun p e s m args below meth c hC hr hlk htab hK hG ls hl => ?_)
  have hx := hC.1
  have hb := hC.2.1
  have hl : lv_has ls 4 [(0, .ref (sm_a v 0)), (1, .int a0), (2, .ref (sm_a v 90))] := hl
  unfold f_Law_memory at hf
  obtain ⟨q, hc, hf⟩ := sm_of_b1 hf
  refine lv_aload_n hx hb d_Law_memory_0 rfl (lv_at hl 2 rfl) ?_
  refine lv_iconst (v := 0) hx hb d_Law_memory_1 (by decide) ?_
  refine lv_aload_n hx hb d_Law_memory_2 rfl (lv_at hl 0 rfl) ?_
  refine lv_iload_n hx hb d_Law_memory_3 rfl (lv_at hl 1 rfl) ?_
  cases q with
  | inl a =>
    obtain ⟨r1, M1⟩ := a
    obtain ⟨rfl, h9⟩ := Prod.mk.inj (Option.some.inj hf)
    obtain ⟨rfl, rfl⟩ := Prod.mk.inj h9
    refine sm_calliC (va_runV (C := R_Mill) (As := [.int a0]) (rest := [.int 0, .ref (sm_a v 90)]) hC (sm_X_ret (c_Mill_memory hfl hc)) (cwV 1 hC.2.2.2.2 (sm_good (sm_inV aw_661 aw_662 aw_663 aw_1 aw_664)) rfl rfl rfl (by decide +kernel) ⟨Nat.le_of_ble_eq_true rfl, Nat.le_of_ble_eq_true rfl⟩) (sm_preV hK hG (by decide) rfl rfl) rfl rfl hl.1 rfl (lv_room (Nat.le_of_ble_eq_true rfl)) d_Law_memory_4 ⟨Nat.le_of_ble_eq_true rfl, Nat.le_of_ble_eq_true rfl⟩) hG (fun H locs hG => ?_)
    refine lv_i2l hx hb d_Law_memory_7 rfl ?_
    refine sm_last hC hK hG sm_in0 d_Law_memory_8 (fun H locs hG => ?_)
    refine lv_goto hx hb d_Law_memory_9 rfl ?_
    refine lv_iconst (v := 0) hx hb d_Law_memory_15 (by decide) ?_
    exact sm_iretC hC hr hlk hG d_Law_memory_16
  | inr n =>
    by_cases h0 : n = 3
    · subst h0
      obtain ⟨rfl, h9⟩ := Prod.mk.inj (Option.some.inj hf)
      obtain ⟨rfl, rfl⟩ := Prod.mk.inj h9
      refine sm_callT (C := R_Mill) (n := 3) (hpc := 12) (As := [.int a0]) (rest := [.int 0, .ref (sm_a v 90)]) hC (c_Mill_memory hfl hc) (cwV 1 hC.2.2.2.2 (sm_good (sm_inV aw_661 aw_662 aw_663 aw_1 aw_664)) rfl rfl rfl (by decide +kernel) ⟨Nat.le_of_ble_eq_true rfl, Nat.le_of_ble_eq_true rfl⟩) (sm_preV hK hG (by decide) rfl rfl) hG (fun U x cell g1 g2 g3 g4 g5 g6 g7 => sm_fd1 g6 hC.2.2.2.1 g1 g2 g7 htab rfl rfl (by decide) (hC.2.2.2.2 _ (List.mem_cons_of_mem _ aw_660)) g3 g4 g5) hl.1 rfl (Nat.le_of_ble_eq_true rfl) d_Law_memory_4 ⟨Nat.le_of_ble_eq_true rfl, Nat.le_of_ble_eq_true rfl⟩ (fun H locs x hG => ?_)
      refine lv_astore_n hx hb d_Law_memory_12 rfl hl (Nat.le_of_ble_eq_true rfl) rfl (fun ls hl => ?_)
      refine lv_iconst (v := 1) hx hb d_Law_memory_13 (by decide) ?_
      exact sm_iretC hC hr hlk hG d_Law_memory_14
    have hf := sm_f h0 hf
    cases hf
