theorem ca_Mill_30 {p : Program} {l : Launch} {e : Env} {R : Room} {s : State} {m : MethodId} {args : Array Value} {below : List Frame} {meth : Method} {c : Code} {H : Heap} {locs : List Loc} {cells slots : Nat} {Q : State → Prop} {cc : ByteArray} {nL pc : Nat} {ls : Array Slot} {rest : List Value} {w0 : Cond} {v : sm_V} {M : sm_M} {o : sm_O} {x0 : Int32} {x1 : Int32} {r : Int32} (hC : CallFix p m c cc nL s args (w0 :: sm_AW) R_Mill) (hK : sm_K v s) (hG : sm_G v M o s H locs) (hM : sm_Ri l y_Mill_isBelow w_Mill_isBelow rm_Mill_isBelow v [.int x0, .int x1] M o r) (hsz : ls.size = nL) (hR : rm_Mill_isBelow.frames + 1 ≤ R.frames ∧ 8 + (2 + 11) + rm_Mill_isBelow.locals ≤ R.locals) (hcs : cells + 0 ≤ R.cells ∧ slots + 0 ≤ R.slots) (hW : (rest.map fun v => v.category).sum ≤ 8) (hdg : decode cc pc = .ok (.invokestatic 30, 3))
    (kk : W p l e R s m args below meth c H locs cells slots Q (F0 m (pc + 3) ls (.int r :: rest))) : W p l e R s m args below meth c H locs cells slots Q (F0 m pc ls (.int x1 :: .int x0 :: rest)) :=
  sm_calli0 (va_runS (As := [.int x0, .int x1]) (rest := rest) hC hM (cwS 2 hC.2.2.2.2 (sm_good (sm_inS aw_214 aw_215 aw_1 aw_216)) rfl rfl rfl (by decide +kernel) hR) (sm_preS hK hG) rfl rfl hsz rfl (lv_room hW) hdg hcs) kk
theorem ca_Mill_34 {p : Program} {l : Launch} {e : Env} {R : Room} {s : State} {m : MethodId} {args : Array Value} {below : List Frame} {meth : Method} {c : Code} {H : Heap} {locs : List Loc} {cells slots : Nat} {Q : State → Prop} {cc : ByteArray} {nL pc : Nat} {ls : Array Slot} {rest : List Value} {w0 : Cond} {v : sm_V} {M : sm_M} {o : sm_O} {x0 : Int32} {x1 : Int32} {x2 : Int32} {x3 : Int32} {r : Int32} (hC : CallFix p m c cc nL s args (w0 :: sm_AW) R_Mill) (hK : sm_K v s) (hG : sm_G v M o s H locs) (hM : sm_Ri l y_Instr_canBe w_Instr_canBe rm_Instr_canBe v [.int x0, .int x1, .int x2, .int x3] M o r) (hsz : ls.size = nL) (hR : rm_Instr_canBe.frames + 1 ≤ R.frames ∧ 8 + (4 + 11) + rm_Instr_canBe.locals ≤ R.locals) (hcs : cells + 0 ≤ R.cells ∧ slots + 0 ≤ R.slots) (hW : (rest.map fun v => v.category).sum ≤ 8) (hdg : decode cc pc = .ok (.invokestatic 34, 3))
    (kk : W p l e R s m args below meth c H locs cells slots Q (F0 m (pc + 3) ls (.int r :: rest))) : W p l e R s m args below meth c H locs cells slots Q (F0 m pc ls (.int x3 :: .int x2 :: .int x1 :: .int x0 :: rest)) :=
  sm_calli0 (va_runS (As := [.int x0, .int x1, .int x2, .int x3]) (rest := rest) hC hM (va_cwS 4 hC.2.2.2.2 (sm_good (sm_inT aw_293 aw_294 aw_8 aw_295)) rfl rfl rfl (by decide +kernel) hR) (sm_preS hK hG) rfl rfl hsz rfl (lv_room hW) hdg hcs) kk
theorem ca_Mill_53 {p : Program} {l : Launch} {e : Env} {R : Room} {s : State} {m : MethodId} {args : Array Value} {below : List Frame} {meth : Method} {c : Code} {H : Heap} {locs : List Loc} {cells slots : Nat} {Q : State → Prop} {cc : ByteArray} {nL pc : Nat} {ls : Array Slot} {rest : List Value} {w0 : Cond} {v : sm_V} {M : sm_M} {o : sm_O} {r : Int32} (hC : CallFix p m c cc nL s args (w0 :: sm_AW) R_Mill) (hK : sm_K v s) (hG : sm_G v M o s H locs) {k : Nat} (hk : sm_isS k) (hM : sm_Ri l y_Section_isFull w_Section_isFull rm_Section_isFull v [.ref (sm_a v k)] M o r) (hsz : ls.size = nL) (hR : rm_Section_isFull.frames + 1 ≤ R.frames ∧ 8 + (1 + 11) + rm_Section_isFull.locals ≤ R.locals) (hcs : cells + 0 ≤ R.cells ∧ slots + 0 ≤ R.slots) (hW : (rest.map fun v => v.category).sum ≤ 8) (hdg : decode cc pc = .ok (.invokevirtual 53, 3))
    (kk : W p l e R s m args below meth c H locs cells slots Q (F0 m (pc + 3) ls (.int r :: rest))) : W p l e R s m args below meth c H locs cells slots Q (F0 m pc ls (.ref (sm_a v k) :: rest)) :=
  sm_calli0 (va_runV (C := R_Section) (As := []) (rest := rest) hC hM (cwV 0 hC.2.2.2.2 (sm_good (sm_inV aw_372 aw_373 aw_374 aw_4 aw_375)) rfl rfl rfl (by decide +kernel) hR) (sm_preV hK hG (sm_s hk).1 (sm_s hk).2 rfl) rfl rfl hsz rfl (lv_room hW) hdg hcs) kk
theorem ca_Mill_62 {p : Program} {l : Launch} {e : Env} {R : Room} {s : State} {m : MethodId} {args : Array Value} {below : List Frame} {meth : Method} {c : Code} {H : Heap} {locs : List Loc} {cells slots : Nat} {Q : State → Prop} {cc : ByteArray} {nL pc : Nat} {ls : Array Slot} {rest : List Value} {w0 : Cond} {v : sm_V} {M : sm_M} {o : sm_O} {x0 : Int32} {x1 : Int32} {x2 : Int32} {x3 : Int32} {r : Int32} (hC : CallFix p m c cc nL s args (w0 :: sm_AW) R_Mill) (hK : sm_K v s) (hG : sm_G v M o s H locs) (hM : sm_Ri l y_Instr_encoded w_Instr_encoded rm_Instr_encoded v [.int x0, .int x1, .int x2, .int x3] M o r) (hsz : ls.size = nL) (hR : rm_Instr_encoded.frames + 1 ≤ R.frames ∧ 8 + (6 + 11) + rm_Instr_encoded.locals ≤ R.locals) (hcs : cells + 0 ≤ R.cells ∧ slots + 0 ≤ R.slots) (hW : (rest.map fun v => v.category).sum ≤ 8) (hdg : decode cc pc = .ok (.invokestatic 62, 3))
    (kk : W p l e R s m args below meth c H locs cells slots Q (F0 m (pc + 3) ls (.int r :: rest))) : W p l e R s m args below meth c H locs cells slots Q (F0 m pc ls (.int x3 :: .int x2 :: .int x1 :: .int x0 :: rest)) :=
  sm_calli0 (va_runS (As := [.int x0, .int x1, .int x2, .int x3]) (rest := rest) hC hM (va_cwS 4 hC.2.2.2.2 (sm_good (sm_inT aw_391 aw_392 aw_8 aw_393)) rfl rfl rfl (by decide +kernel) hR) (sm_preS hK hG) rfl rfl hsz rfl (lv_room hW) hdg hcs) kk
theorem ca_Mill_66 {p : Program} {l : Launch} {e : Env} {R : Room} {s : State} {m : MethodId} {args : Array Value} {below : List Frame} {meth : Method} {c : Code} {H : Heap} {locs : List Loc} {cells slots : Nat} {Q : State → Prop} {cc : ByteArray} {nL pc : Nat} {ls : Array Slot} {rest : List Value} {w0 : Cond} {v : sm_V} {M : sm_M} {o : sm_O} {x0 : Int32} {r : Int32} {M' : sm_M} (hC : CallFix p m c cc nL s args (w0 :: sm_AW) R_Mill) (hK : sm_K v s) (hG : sm_G v M o s H locs) {k : Nat} (hk : sm_isS k) (hM : sm_Ci l y_Section_append w_Section_append rm_Section_append v [.ref (sm_a v k), .int x0] M o r M') (hsz : ls.size = nL) (hR : rm_Section_append.frames + 1 ≤ R.frames ∧ 8 + (2 + 11) + rm_Section_append.locals ≤ R.locals) (hcs : cells + 0 ≤ R.cells ∧ slots + 0 ≤ R.slots) (hW : (rest.map fun v => v.category).sum ≤ 8) (hdg : decode cc pc = .ok (.invokevirtual 66, 3))
    (kk : ∀ (H : Heap) (locs : List Loc), sm_G v M' o s H locs → W p l e R s m args below meth c H locs cells slots Q (F0 m (pc + 3) ls (.int r :: rest))) : W p l e R s m args below meth c H locs cells slots Q (F0 m pc ls (.int x0 :: .ref (sm_a v k) :: rest)) :=
  sm_calli (va_runV (C := R_Section) (As := [.int x0]) (rest := rest) hC hM (cwV 1 hC.2.2.2.2 (sm_good (sm_inV aw_394 aw_395 aw_396 aw_4 aw_397)) rfl rfl rfl (by decide +kernel) hR) (sm_preV hK hG (sm_s hk).1 (sm_s hk).2 rfl) rfl rfl hsz rfl (lv_room hW) hdg hcs) hG kk
abbrev w_Mill_put : List Cond := Cond.code y_Mill_put b_Mill_put 7 (some .int) :: sm_AW
abbrev rm_Mill_put : Room := { frames := 6, cells := 1, slots := 6, locals := 90 }
def f_Mill_put (M : sm_M) (a0 : Int32) (a1 : Int32) (a2 : Int32) (a3 : Int32) (a4 : Int32) : Option ((Int32 × sm_M) ⊕ Nat) :=
sm_b1 (f_Mill_isBelow a0 (4 : Int32)) fun r2_2 =>
(if r2_2 = 0 then
(some (.inr 1))
else
sm_b1 (f_Instr_canBe a1 a2 a3 a4) fun r14_6 =>
(if r14_6 = 0 then
(some (.inr 1))
else
sm_gd a0 4 (
sm_nm (3 + 14 * Int32.toNatClampNeg a0) fun k36_10 =>
sm_b1 (f_Section_isFull M (k36_10 + 1)) fun r44_12 =>
(if r44_12 = 0 then
sm_b1 (f_Instr_encoded a1 a2 a3 a4) fun r66_16 =>
sm_b2 (f_Section_append M (k36_10 + 1) r66_16) fun r69_19 M69_20 =>
(some (.inl (r69_19, M69_20)))
else
(some (.inr 2))))))
set_option maxHeartbeats 4000000 in
set_option maxRecDepth 100000 in
theorem c_Mill_put {l : Launch} {v : sm_V} {o : sm_O} {M : sm_M} {a0 : Int32} {a1 : Int32} {a2 : Int32} {a3 : Int32} {a4 : Int32} {q : (Int32 × sm_M) ⊕ Nat} (hfl : l.flags = pinnedFlags ++ [noTraceFlag]) (hf : f_Mill_put M a0 a1 a2 a3 a4 = some q) : sm_X l y_Mill_put w_Mill_put rm_Mill_put v [.ref (sm_a v 0), .int a0, .int a1, .int a2, .int a3, .int a4] M o q := by
  refine sm_metX (cc := b_Mill_put) (nL := 7) (ret := some .int) (by decide) rfl (Nat.le_of_ble_eq_true rfl) (fun p e s m args below meth c hC hr hlk hne hK hG ls hl => ?_)
  have hx := hC.1
  have hb := hC.2.1
  have hl : lv_has ls 7 [(0, .ref (sm_a v 0)), (1, .int a0), (2, .int a1), (3, .int a2), (4, .int a3), (5, .int a4)] := hl
  unfold f_Mill_put at hf
  refine lv_iload_n hx hb d_Mill_put_0 rfl (lv_at hl 1 rfl) ?_
  refine lv_iconst (v := 4) hx hb d_Mill_put_1 (by decide) ?_
  obtain ⟨r2_2, hc2_1, hf⟩ := sm_of_b1 hf
  refine ca_Mill_30 hC hK hG (c_Mill_isBelow hc2_1) hl.1 ⟨Nat.le_of_ble_eq_true rfl, Nat.le_of_ble_eq_true rfl⟩ ⟨Nat.zero_le _, Nat.zero_le _⟩ (Nat.le_of_ble_eq_true rfl) d_Mill_put_2 ?_
  refine lv_if_eq hx hb d_Mill_put_5 rfl (fun h5_4 => ?_) (fun h5_4 => ?_)
  · have hf := sm_t h5_4 hf
    obtain rfl := Option.some.inj hf
    exact sm_throw hfl hC hlk hne hG hl.1 (by decide) (tl_Mill_40 hC) (ti_1 hC) (ta_Mill_42 hC hK) ⟨Nat.le_of_ble_eq_true rfl, Nat.le_of_ble_eq_true rfl, Nat.le_of_ble_eq_true rfl, Nat.le_of_ble_eq_true rfl⟩ d_Mill_put_20 d_Mill_put_23 d_Mill_put_24 d_Mill_put_27
  · have hf := sm_f h5_4 hf
    refine lv_iload_n hx hb d_Mill_put_8 rfl (lv_at hl 2 rfl) ?_
    refine lv_iload_n hx hb d_Mill_put_9 rfl (lv_at hl 3 rfl) ?_
    refine lv_iload hx hb d_Mill_put_10 (lv_at hl 4 rfl) ?_
    refine lv_iload hx hb d_Mill_put_12 (lv_at hl 5 rfl) ?_
    obtain ⟨r14_6, hc14_5, hf⟩ := sm_of_b1 hf
    refine ca_Mill_34 hC hK hG (c_Instr_canBe hc14_5) hl.1 ⟨Nat.le_of_ble_eq_true rfl, Nat.le_of_ble_eq_true rfl⟩ ⟨Nat.zero_le _, Nat.zero_le _⟩ (Nat.le_of_ble_eq_true rfl) d_Mill_put_14 ?_
    refine lv_if_ne hx hb d_Mill_put_17 rfl (fun h17_8 => ?_) (fun h17_8 => ?_)
    · have hf := sm_f h17_8 hf
      refine lv_aload_n hx hb d_Mill_put_28 rfl (lv_at hl 0 rfl) ?_
      refine gf_Mill_10 hC hK hG d_Mill_put_29 ?_
      refine gf_Mill_43 hC hK hG d_Mill_put_32 ?_
      refine lv_iload_n hx hb d_Mill_put_35 rfl (lv_at hl 1 rfl) ?_
      obtain ⟨h36_9, hf⟩ := sm_of_gd hf
      refine sm_aald hC hK hG h36_9 d_Mill_put_36 (fun k36_10 ek36_10 hk36_10 => ?_)
      have hf := sm_of ek36_10 hf
      refine gf_Mill_47 hC hK hG hk36_10 d_Mill_put_37 ?_
      refine lv_astore hx hb d_Mill_put_40 hl (Nat.le_of_ble_eq_true rfl) rfl (fun ls hl => ?_)
      have hl : lv_has ls 7 [(6, .ref (sm_a v (k36_10 + 1))), (0, .ref (sm_a v 0)), (1, .int a0), (2, .int a1), (3, .int a2), (4, .int a3), (5, .int a4)] := hl
      have hl : lv_has ls 7 [(6, .ref (sm_a v (k36_10 + 1))), (2, .int a1), (3, .int a2), (4, .int a3), (5, .int a4)] := lv_sub hl [0, 3, 4, 5, 6] rfl
      refine lv_aload hx hb d_Mill_put_42 (lv_at hl 0 rfl) ?_
      obtain ⟨r44_12, hc44_11, hf⟩ := sm_of_b1 hf
      refine ca_Mill_53 hC hK hG (sm_ps1 hk36_10) (c_Section_isFull (sm_ps1 hk36_10) hc44_11) hl.1 ⟨Nat.le_of_ble_eq_true rfl, Nat.le_of_ble_eq_true rfl⟩ ⟨Nat.zero_le _, Nat.zero_le _⟩ (Nat.le_of_ble_eq_true rfl) d_Mill_put_44 ?_
      refine lv_if_eq hx hb d_Mill_put_47 rfl (fun h47_14 => ?_) (fun h47_14 => ?_)
      · have hf := sm_t h47_14 hf
        refine lv_aload hx hb d_Mill_put_58 (lv_at hl 0 rfl) ?_
        refine lv_iload_n hx hb d_Mill_put_60 rfl (lv_at hl 1 rfl) ?_
        refine lv_iload_n hx hb d_Mill_put_61 rfl (lv_at hl 2 rfl) ?_
        refine lv_iload hx hb d_Mill_put_62 (lv_at hl 3 rfl) ?_
        refine lv_iload hx hb d_Mill_put_64 (lv_at hl 4 rfl) ?_
        obtain ⟨r66_16, hc66_15, hf⟩ := sm_of_b1 hf
        refine ca_Mill_62 hC hK hG (c_Instr_encoded hc66_15) hl.1 ⟨Nat.le_of_ble_eq_true rfl, Nat.le_of_ble_eq_true rfl⟩ ⟨Nat.zero_le _, Nat.zero_le _⟩ (Nat.le_of_ble_eq_true rfl) d_Mill_put_66 ?_
        obtain ⟨r69_19, M69_20, hc69_18, hf⟩ := sm_of_b2 hf
        refine ca_Mill_66 hC hK hG (sm_ps1 hk36_10) (c_Section_append (sm_ps1 hk36_10) hc69_18) hl.1 ⟨Nat.le_of_ble_eq_true rfl, Nat.le_of_ble_eq_true rfl⟩ ⟨Nat.zero_le _, Nat.zero_le _⟩ (Nat.le_of_ble_eq_true rfl) d_Mill_put_69 (fun H locs hG => ?_)
        obtain rfl := Option.some.inj hf
        exact sm_iretX hC hr hlk hG d_Mill_put_72
      · have hf := sm_f h47_14 hf
        obtain rfl := Option.some.inj hf
        exact sm_throw hfl hC hlk hne hG hl.1 (by decide) (tl_Mill_59 hC) (ti_2 hC) (ta_Mill_61 hC hK) ⟨Nat.le_of_ble_eq_true rfl, Nat.le_of_ble_eq_true rfl, Nat.le_of_ble_eq_true rfl, Nat.le_of_ble_eq_true rfl⟩ d_Mill_put_50 d_Mill_put_53 d_Mill_put_54 d_Mill_put_57
    · have hf := sm_t h17_8 hf
      obtain rfl := Option.some.inj hf
      exact sm_throw hfl hC hlk hne hG hl.1 (by decide) (tl_Mill_40 hC) (ti_1 hC) (ta_Mill_42 hC hK) ⟨Nat.le_of_ble_eq_true rfl, Nat.le_of_ble_eq_true rfl, Nat.le_of_ble_eq_true rfl, Nat.le_of_ble_eq_true rfl⟩ d_Mill_put_20 d_Mill_put_23 d_Mill_put_24 d_Mill_put_27
abbrev w_Mill_word : List Cond := Cond.code y_Mill_word b_Mill_word 4 (some .int) :: sm_AW
abbrev rm_Mill_word : Room := { frames := 6, cells := 1, slots := 6, locals := 90 }
def f_Mill_word (M : sm_M) (a0 : Int32) (a1 : Int32) : Option ((Int32 × sm_M) ⊕ Nat) :=
sm_b1 (f_Mill_isBelow a0 (4 : Int32)) fun r2_2 =>
(if r2_2 = 0 then
(some (.inr 1))
else
sm_gd a0 4 (
sm_nm (3 + 14 * Int32.toNatClampNeg a0) fun k24_6 =>
sm_b1 (f_Section_isFull M (k24_6 + 3)) fun r30_8 =>
(if r30_8 = 0 then
sm_b2 (f_Section_append M (k24_6 + 3) a1) fun r46_12 M46_13 =>
(some (.inl (r46_12, M46_13)))
else
(some (.inr 2)))))
set_option maxHeartbeats 4000000 in
set_option maxRecDepth 100000 in
theorem c_Mill_word {l : Launch} {v : sm_V} {o : sm_O} {M : sm_M} {a0 : Int32} {a1 : Int32} {q : (Int32 × sm_M) ⊕ Nat} (hfl : l.flags = pinnedFlags ++ [noTraceFlag]) (hf : f_Mill_word M a0 a1 = some q) : sm_X l y_Mill_word w_Mill_word rm_Mill_word v [.ref (sm_a v 0), .int a0, .int a1] M o q := by
  refine sm_metX (cc := b_Mill_word) (nL := 4) (ret := some .int) (by decide) rfl (Nat.le_of_ble_eq_true rfl) (fun p e s m args below meth c hC hr hlk hne hK hG ls hl => ?_)
  have hx := hC.1
  have hb := hC.2.1
  have hl : lv_has ls 4 [(0, .ref (sm_a v 0)), (1, .int a0), (2, .int a1)] := hl
  unfold f_Mill_word at hf
  refine lv_iload_n hx hb d_Mill_word_0 rfl (lv_at hl 1 rfl) ?_
  refine lv_iconst (v := 4) hx hb d_Mill_word_1 (by decide) ?_
  obtain ⟨r2_2, hc2_1, hf⟩ := sm_of_b1 hf
  refine ca_Mill_30 hC hK hG (c_Mill_isBelow hc2_1) hl.1 ⟨Nat.le_of_ble_eq_true rfl, Nat.le_of_ble_eq_true rfl⟩ ⟨Nat.zero_le _, Nat.zero_le _⟩ (Nat.le_of_ble_eq_true rfl) d_Mill_word_2 ?_
  refine lv_if_ne hx hb d_Mill_word_5 rfl (fun h5_4 => ?_) (fun h5_4 => ?_)
  · have hf := sm_f h5_4 hf
    refine lv_aload_n hx hb d_Mill_word_16 rfl (lv_at hl 0 rfl) ?_
    refine gf_Mill_10 hC hK hG d_Mill_word_17 ?_
    refine gf_Mill_43 hC hK hG d_Mill_word_20 ?_
    refine lv_iload_n hx hb d_Mill_word_23 rfl (lv_at hl 1 rfl) ?_
    obtain ⟨h24_5, hf⟩ := sm_of_gd hf
    refine sm_aald hC hK hG h24_5 d_Mill_word_24 (fun k24_6 ek24_6 hk24_6 => ?_)
    have hf := sm_of ek24_6 hf
    refine gf_Mill_70 hC hK hG hk24_6 d_Mill_word_25 ?_
    refine lv_astore_n hx hb d_Mill_word_28 rfl hl (Nat.le_of_ble_eq_true rfl) rfl (fun ls hl => ?_)
    have hl : lv_has ls 4 [(3, .ref (sm_a v (k24_6 + 3))), (0, .ref (sm_a v 0)), (1, .int a0), (2, .int a1)] := hl
    have hl : lv_has ls 4 [(3, .ref (sm_a v (k24_6 + 3))), (2, .int a1)] := lv_sub hl [0, 3] rfl
    refine lv_aload_n hx hb d_Mill_word_29 rfl (lv_at hl 0 rfl) ?_
    obtain ⟨r30_8, hc30_7, hf⟩ := sm_of_b1 hf
    refine ca_Mill_53 hC hK hG (sm_ps3 hk24_6) (c_Section_isFull (sm_ps3 hk24_6) hc30_7) hl.1 ⟨Nat.le_of_ble_eq_true rfl, Nat.le_of_ble_eq_true rfl⟩ ⟨Nat.zero_le _, Nat.zero_le _⟩ (Nat.le_of_ble_eq_true rfl) d_Mill_word_30 ?_
    refine lv_if_eq hx hb d_Mill_word_33 rfl (fun h33_10 => ?_) (fun h33_10 => ?_)
    · have hf := sm_t h33_10 hf
      refine lv_aload_n hx hb d_Mill_word_44 rfl (lv_at hl 0 rfl) ?_
      refine lv_iload_n hx hb d_Mill_word_45 rfl (lv_at hl 1 rfl) ?_
      obtain ⟨r46_12, M46_13, hc46_11, hf⟩ := sm_of_b2 hf
      refine ca_Mill_66 hC hK hG (sm_ps3 hk24_6) (c_Section_append (sm_ps3 hk24_6) hc46_11) hl.1 ⟨Nat.le_of_ble_eq_true rfl, Nat.le_of_ble_eq_true rfl⟩ ⟨Nat.zero_le _, Nat.zero_le _⟩ (Nat.le_of_ble_eq_true rfl) d_Mill_word_46 (fun H locs hG => ?_)
      obtain rfl := Option.some.inj hf
      exact sm_iretX hC hr hlk hG d_Mill_word_49
    · have hf := sm_f h33_10 hf
      obtain rfl := Option.some.inj hf
      exact sm_throw hfl hC hlk hne hG hl.1 (by decide) (tl_Mill_59 hC) (ti_2 hC) (ta_Mill_61 hC hK) ⟨Nat.le_of_ble_eq_true rfl, Nat.le_of_ble_eq_true rfl, Nat.le_of_ble_eq_true rfl, Nat.le_of_ble_eq_true rfl⟩ d_Mill_word_36 d_Mill_word_39 d_Mill_word_40 d_Mill_word_43
  · have hf := sm_t h5_4 hf
    obtain rfl := Option.some.inj hf
    exact sm_throw hfl hC hlk hne hG hl.1 (by decide) (tl_Mill_40 hC) (ti_1 hC) (ta_Mill_42 hC hK) ⟨Nat.le_of_ble_eq_true rfl, Nat.le_of_ble_eq_true rfl, Nat.le_of_ble_eq_true rfl, Nat.le_of_ble_eq_true rfl⟩ d_Mill_word_8 d_Mill_word_11 d_Mill_word_12 d_Mill_word_15
theorem ca_Mill_73 {p : Program} {l : Launch} {e : Env} {R : Room} {s : State} {m : MethodId} {args : Array Value} {below : List Frame} {meth : Method} {c : Code} {H : Heap} {locs : List Loc} {cells slots : Nat} {Q : State → Prop} {cc : ByteArray} {nL pc : Nat} {ls : Array Slot} {rest : List Value} {w0 : Cond} {v : sm_V} {M : sm_M} {o : sm_O} {x0 : Int32} {r : Int32} (hC : CallFix p m c cc nL s args (w0 :: sm_AW) R_Mill) (hK : sm_K v s) (hG : sm_G v M o s H locs) (hM : sm_Ri l y_Mill_isSection w_Mill_isSection rm_Mill_isSection v [.int x0] M o r) (hsz : ls.size = nL) (hR : rm_Mill_isSection.frames + 1 ≤ R.frames ∧ 8 + (1 + 11) + rm_Mill_isSection.locals ≤ R.locals) (hcs : cells + 0 ≤ R.cells ∧ slots + 0 ≤ R.slots) (hW : (rest.map fun v => v.category).sum ≤ 8) (hdg : decode cc pc = .ok (.invokestatic 73, 3))
    (kk : W p l e R s m args below meth c H locs cells slots Q (F0 m (pc + 3) ls (.int r :: rest))) : W p l e R s m args below meth c H locs cells slots Q (F0 m pc ls (.int x0 :: rest)) :=
  sm_calli0 (va_runS (As := [.int x0]) (rest := rest) hC hM (cwS 1 hC.2.2.2.2 (sm_good (sm_inS aw_412 aw_413 aw_1 aw_414)) rfl rfl rfl (by decide +kernel) hR) (sm_preS hK hG) rfl rfl hsz rfl (lv_room hW) hdg hcs) kk
theorem ca_Mill_77 {p : Program} {l : Launch} {e : Env} {R : Room} {s : State} {m : MethodId} {args : Array Value} {below : List Frame} {meth : Method} {c : Code} {H : Heap} {locs : List Loc} {cells slots : Nat} {Q : State → Prop} {cc : ByteArray} {nL pc : Nat} {ls : Array Slot} {rest : List Value} {w0 : Cond} {v : sm_V} {M : sm_M} {o : sm_O} {x0 : Int32} {r : Nat} (hC : CallFix p m c cc nL s args (w0 :: sm_AW) R_Mill) (hK : sm_K v s) (hG : sm_G v M o s H locs) {k : Nat} (hk : sm_isP k) (hM : sm_Rr l y_Part_sectionOf w_Part_sectionOf rm_Part_sectionOf v [.ref (sm_a v k), .int x0] M o r) (hsz : ls.size = nL) (hR : rm_Part_sectionOf.frames + 1 ≤ R.frames ∧ 8 + (2 + 11) + rm_Part_sectionOf.locals ≤ R.locals) (hcs : cells + 0 ≤ R.cells ∧ slots + 0 ≤ R.slots) (hW : (rest.map fun v => v.category).sum ≤ 8) (hdg : decode cc pc = .ok (.invokevirtual 77, 3))
    (kk : W p l e R s m args below meth c H locs cells slots Q (F0 m (pc + 3) ls (.ref (sm_a v r) :: rest))) : W p l e R s m args below meth c H locs cells slots Q (F0 m pc ls (.int x0 :: .ref (sm_a v k) :: rest)) :=
  sm_callr0 (va_runV (C := R_Part) (As := [.int x0]) (rest := rest) hC hM (cwV 1 hC.2.2.2.2 (sm_good (sm_inV aw_415 aw_416 aw_417 aw_3 aw_418)) rfl rfl rfl (by decide +kernel) hR) (sm_preV hK hG (sm_p hk).1 (sm_p hk).2 rfl) rfl rfl hsz rfl (lv_room hW) hdg hcs) kk
theorem ca_Mill_88 {p : Program} {l : Launch} {e : Env} {R : Room} {s : State} {m : MethodId} {args : Array Value} {below : List Frame} {meth : Method} {c : Code} {H : Heap} {locs : List Loc} {cells slots : Nat} {Q : State → Prop} {cc : ByteArray} {nL pc : Nat} {ls : Array Slot} {rest : List Value} {w0 : Cond} {v : sm_V} {M : sm_M} {o : sm_O} {x0 : Int32} {x1 : Int32} {x2 : Int32} {x3 : Int32} {r : Int32} {M' : sm_M} (hC : CallFix p m c cc nL s args (w0 :: sm_AW) R_Mill) (hK : sm_K v s) (hG : sm_G v M o s H locs) {k : Nat} (hk : sm_isP k) (hM : sm_Ci l y_Part_addDefinition w_Part_addDefinition rm_Part_addDefinition v [.ref (sm_a v k), .int x0, .int x1, .int x2, .int x3] M o r M') (hsz : ls.size = nL) (hR : rm_Part_addDefinition.frames + 1 ≤ R.frames ∧ 8 + (5 + 11) + rm_Part_addDefinition.locals ≤ R.locals) (hcs : cells + 0 ≤ R.cells ∧ slots + 0 ≤ R.slots) (hW : (rest.map fun v => v.category).sum ≤ 8) (hdg : decode cc pc = .ok (.invokevirtual 88, 3))
    (kk : ∀ (H : Heap) (locs : List Loc), sm_G v M' o s H locs → W p l e R s m args below meth c H locs cells slots Q (F0 m (pc + 3) ls (.int r :: rest))) : W p l e R s m args below meth c H locs cells slots Q (F0 m pc ls (.int x3 :: .int x2 :: .int x1 :: .int x0 :: .ref (sm_a v k) :: rest)) :=
  sm_calli (va_runV (C := R_Part) (As := [.int x0, .int x1, .int x2, .int x3]) (rest := rest) hC hM (cwV 4 hC.2.2.2.2 (sm_good (sm_inV aw_419 aw_420 aw_421 aw_3 aw_422)) rfl rfl rfl (by decide +kernel) hR) (sm_preV hK hG (sm_p hk).1 (sm_p hk).2 rfl) rfl rfl hsz rfl (lv_room hW) hdg hcs) hG kk
abbrev w_Mill_define : List Cond := Cond.code y_Mill_define b_Mill_define 7 (some .int) :: sm_AW
abbrev rm_Mill_define : Room := { frames := 6, cells := 1, slots := 6, locals := 90 }
def f_Mill_define (M : sm_M) (a0 : Int32) (a1 : Int32) (a2 : Int32) (a3 : Int32) (a4 : Int32) : Option ((Int32 × sm_M) ⊕ Nat) :=
sm_b1 (f_Mill_isBelow a0 (4 : Int32)) fun r2_2 =>
(if r2_2 = 0 then
(some (.inr 1))
else
sm_b1 (f_Mill_isBelow a1 (16 : Int32)) fun r11_6 =>
(if r11_6 = 0 then
(some (.inr 1))
else
sm_b1 (f_Mill_isSection a2) fun r18_10 =>
(if r18_10 = 0 then
(some (.inr 1))
else
sm_gd a0 4 (
sm_nm (3 + 14 * Int32.toNatClampNeg a0) fun k40_14 =>
sm_b1 (f_Part_sectionOf M k40_14 a2) fun r48_16 =>
sm_b1 (f_Mill_isBelow a3 ((M r48_16 1) + (1 : Int32))) fun r56_19 =>
(if r56_19 = 0 then
(some (.inr 1))
else
(if (M k40_14 6) = (8 : Int32) then
(some (.inr 2))
else
sm_b2 (f_Part_addDefinition M k40_14 a1 a2 a3 a4) fun r96_24 M96_25 =>
(some (.inl (r96_24, M96_25)))))))))
set_option maxHeartbeats 4000000 in
set_option maxRecDepth 100000 in
theorem c_Mill_define {l : Launch} {v : sm_V} {o : sm_O} {M : sm_M} {a0 : Int32} {a1 : Int32} {a2 : Int32} {a3 : Int32} {a4 : Int32} {q : (Int32 × sm_M) ⊕ Nat} (hfl : l.flags = pinnedFlags ++ [noTraceFlag]) (hf : f_Mill_define M a0 a1 a2 a3 a4 = some q) : sm_X l y_Mill_define w_Mill_define rm_Mill_define v [.ref (sm_a v 0), .int a0, .int a1, .int a2, .int a3, .int a4] M o q := by
  refine sm_metX (cc := b_Mill_define) (nL := 7) (ret := some .int) (by decide) rfl (Nat.le_of_ble_eq_true rfl) (fun p e s m args below meth c hC hr hlk hne hK hG ls hl => ?_)
  have hx := hC.1
  have hb := hC.2.1
  have hl : lv_has ls 7 [(0, .ref (sm_a v 0)), (1, .int a0), (2, .int a1), (3, .int a2), (4, .int a3), (5, .int a4)] := hl
  unfold f_Mill_define at hf
  refine lv_iload_n hx hb d_Mill_define_0 rfl (lv_at hl 1 rfl) ?_
  refine lv_iconst (v := 4) hx hb d_Mill_define_1 (by decide) ?_
  obtain ⟨r2_2, hc2_1, hf⟩ := sm_of_b1 hf
  refine ca_Mill_30 hC hK hG (c_Mill_isBelow hc2_1) hl.1 ⟨Nat.le_of_ble_eq_true rfl, Nat.le_of_ble_eq_true rfl⟩ ⟨Nat.zero_le _, Nat.zero_le _⟩ (Nat.le_of_ble_eq_true rfl) d_Mill_define_2 ?_
  refine lv_if_eq hx hb d_Mill_define_5 rfl (fun h5_4 => ?_) (fun h5_4 => ?_)
  · have hf := sm_t h5_4 hf
    obtain rfl := Option.some.inj hf
    exact sm_throw hfl hC hlk hne hG hl.1 (by decide) (tl_Mill_40 hC) (ti_1 hC) (ta_Mill_42 hC hK) ⟨Nat.le_of_ble_eq_true rfl, Nat.le_of_ble_eq_true rfl, Nat.le_of_ble_eq_true rfl, Nat.le_of_ble_eq_true rfl⟩ d_Mill_define_24 d_Mill_define_27 d_Mill_define_28 d_Mill_define_31
  · have hf := sm_f h5_4 hf
    refine lv_iload_n hx hb d_Mill_define_8 rfl (lv_at hl 2 rfl) ?_
    refine lv_bipush (v := 16) hx hb d_Mill_define_9 (by decide) ?_
    obtain ⟨r11_6, hc11_5, hf⟩ := sm_of_b1 hf
    refine ca_Mill_30 hC hK hG (c_Mill_isBelow hc11_5) hl.1 ⟨Nat.le_of_ble_eq_true rfl, Nat.le_of_ble_eq_true rfl⟩ ⟨Nat.zero_le _, Nat.zero_le _⟩ (Nat.le_of_ble_eq_true rfl) d_Mill_define_11 ?_
    refine lv_if_eq hx hb d_Mill_define_14 rfl (fun h14_8 => ?_) (fun h14_8 => ?_)
    · have hf := sm_t h14_8 hf
      obtain rfl := Option.some.inj hf
      exact sm_throw hfl hC hlk hne hG hl.1 (by decide) (tl_Mill_40 hC) (ti_1 hC) (ta_Mill_42 hC hK) ⟨Nat.le_of_ble_eq_true rfl, Nat.le_of_ble_eq_true rfl, Nat.le_of_ble_eq_true rfl, Nat.le_of_ble_eq_true rfl⟩ d_Mill_define_24 d_Mill_define_27 d_Mill_define_28 d_Mill_define_31
    · have hf := sm_f h14_8 hf
      refine lv_iload_n hx hb d_Mill_define_17 rfl (lv_at hl 3 rfl) ?_
      obtain ⟨r18_10, hc18_9, hf⟩ := sm_of_b1 hf
      refine ca_Mill_73 hC hK hG (c_Mill_isSection hc18_9) hl.1 ⟨Nat.le_of_ble_eq_true rfl, Nat.le_of_ble_eq_true rfl⟩ ⟨Nat.zero_le _, Nat.zero_le _⟩ (Nat.le_of_ble_eq_true rfl) d_Mill_define_18 ?_
      refine lv_if_ne hx hb d_Mill_define_21 rfl (fun h21_12 => ?_) (fun h21_12 => ?_)
      · have hf := sm_f h21_12 hf
        refine lv_aload_n hx hb d_Mill_define_32 rfl (lv_at hl 0 rfl) ?_
        refine gf_Mill_10 hC hK hG d_Mill_define_33 ?_
        refine gf_Mill_43 hC hK hG d_Mill_define_36 ?_
        refine lv_iload_n hx hb d_Mill_define_39 rfl (lv_at hl 1 rfl) ?_
        obtain ⟨h40_13, hf⟩ := sm_of_gd hf
        refine sm_aald hC hK hG h40_13 d_Mill_define_40 (fun k40_14 ek40_14 hk40_14 => ?_)
        have hf := sm_of ek40_14 hf
        refine lv_astore hx hb d_Mill_define_41 hl (Nat.le_of_ble_eq_true rfl) rfl (fun ls hl => ?_)
        have hl : lv_has ls 7 [(6, .ref (sm_a v k40_14)), (0, .ref (sm_a v 0)), (1, .int a0), (2, .int a1), (3, .int a2), (4, .int a3), (5, .int a4)] := hl
        have hl : lv_has ls 7 [(6, .ref (sm_a v k40_14)), (2, .int a1), (3, .int a2), (4, .int a3), (5, .int a4)] := lv_sub hl [0, 3, 4, 5, 6] rfl
        refine lv_iload hx hb d_Mill_define_43 (lv_at hl 3 rfl) ?_
        refine lv_aload hx hb d_Mill_define_45 (lv_at hl 0 rfl) ?_
        refine lv_iload_n hx hb d_Mill_define_47 rfl (lv_at hl 2 rfl) ?_
        obtain ⟨r48_16, hc48_15, hf⟩ := sm_of_b1 hf
        refine ca_Mill_77 hC hK hG hk40_14 (c_Part_sectionOf hk40_14 hc48_15) hl.1 ⟨Nat.le_of_ble_eq_true rfl, Nat.le_of_ble_eq_true rfl⟩ ⟨Nat.zero_le _, Nat.zero_le _⟩ (Nat.le_of_ble_eq_true rfl) d_Mill_define_48 ?_
        have hr48_16 := sm_secOf hk40_14 hc48_15
        refine gf_Mill_81 hC hK hG hr48_16 d_Mill_define_51 ?_
        refine lv_iconst (v := 1) hx hb d_Mill_define_54 (by decide) ?_
        refine lv_iadd hx hb d_Mill_define_55 ?_
        obtain ⟨r56_19, hc56_18, hf⟩ := sm_of_b1 hf
        refine ca_Mill_30 hC hK hG (c_Mill_isBelow hc56_18) hl.1 ⟨Nat.le_of_ble_eq_true rfl, Nat.le_of_ble_eq_true rfl⟩ ⟨Nat.zero_le _, Nat.zero_le _⟩ (Nat.le_of_ble_eq_true rfl) d_Mill_define_56 ?_
        refine lv_if_ne hx hb d_Mill_define_59 rfl (fun h59_21 => ?_) (fun h59_21 => ?_)
        · have hf := sm_f h59_21 hf
          refine lv_aload hx hb d_Mill_define_70 (lv_at hl 0 rfl) ?_
          refine gf_Mill_85 hC hK hG hk40_14 d_Mill_define_72 ?_
          refine lv_bipush (v := 8) hx hb d_Mill_define_75 (by decide) ?_
          refine lv_icmp_ne hx hb d_Mill_define_77 rfl (fun h77_22 => ?_) (fun h77_22 => ?_)
          · have hf := sm_f h77_22 hf
            refine lv_aload hx hb d_Mill_define_88 (lv_at hl 0 rfl) ?_
            refine lv_iload_n hx hb d_Mill_define_90 rfl (lv_at hl 1 rfl) ?_
            refine lv_iload_n hx hb d_Mill_define_91 rfl (lv_at hl 2 rfl) ?_
            refine lv_iload hx hb d_Mill_define_92 (lv_at hl 3 rfl) ?_
            refine lv_iload hx hb d_Mill_define_94 (lv_at hl 4 rfl) ?_
            obtain ⟨r96_24, M96_25, hc96_23, hf⟩ := sm_of_b2 hf
            refine ca_Mill_88 hC hK hG hk40_14 (c_Part_addDefinition hk40_14 hc96_23) hl.1 ⟨Nat.le_of_ble_eq_true rfl, Nat.le_of_ble_eq_true rfl⟩ ⟨Nat.zero_le _, Nat.zero_le _⟩ (Nat.le_of_ble_eq_true rfl) d_Mill_define_96 (fun H locs hG => ?_)
            obtain rfl := Option.some.inj hf
            exact sm_iretX hC hr hlk hG d_Mill_define_99
          · have hf := sm_t h77_22 hf
            obtain rfl := Option.some.inj hf
            exact sm_throw hfl hC hlk hne hG hl.1 (by decide) (tl_Mill_59 hC) (ti_2 hC) (ta_Mill_61 hC hK) ⟨Nat.le_of_ble_eq_true rfl, Nat.le_of_ble_eq_true rfl, Nat.le_of_ble_eq_true rfl, Nat.le_of_ble_eq_true rfl⟩ d_Mill_define_80 d_Mill_define_83 d_Mill_define_84 d_Mill_define_87
        · have hf := sm_t h59_21 hf
          obtain rfl := Option.some.inj hf
          exact sm_throw hfl hC hlk hne hG hl.1 (by decide) (tl_Mill_40 hC) (ti_1 hC) (ta_Mill_42 hC hK) ⟨Nat.le_of_ble_eq_true rfl, Nat.le_of_ble_eq_true rfl, Nat.le_of_ble_eq_true rfl, Nat.le_of_ble_eq_true rfl⟩ d_Mill_define_62 d_Mill_define_65 d_Mill_define_66 d_Mill_define_69
      · have hf := sm_t h21_12 hf
        obtain rfl := Option.some.inj hf
        exact sm_throw hfl hC hlk hne hG hl.1 (by decide) (tl_Mill_40 hC) (ti_1 hC) (ta_Mill_42 hC hK) ⟨Nat.le_of_ble_eq_true rfl, Nat.le_of_ble_eq_true rfl, Nat.le_of_ble_eq_true rfl, Nat.le_of_ble_eq_true rfl⟩ d_Mill_define_24 d_Mill_define_27 d_Mill_define_28 d_Mill_define_31
theorem ca_Mill_97 {p : Program} {l : Launch} {e : Env} {R : Room} {s : State} {m : MethodId} {args : Array Value} {below : List Frame} {meth : Method} {c : Code} {H : Heap} {locs : List Loc} {cells slots : Nat} {Q : State → Prop} {cc : ByteArray} {nL pc : Nat} {ls : Array Slot} {rest : List Value} {w0 : Cond} {v : sm_V} {M : sm_M} {o : sm_O} {x0 : Int32} {x1 : Int32} {x2 : Int32} {x3 : Int32} {x4 : Int32} {r : Int32} {M' : sm_M} (hC : CallFix p m c cc nL s args (w0 :: sm_AW) R_Mill) (hK : sm_K v s) (hG : sm_G v M o s H locs) {k : Nat} (hk : sm_isP k) (hM : sm_Ci l y_Part_addFix w_Part_addFix rm_Part_addFix v [.ref (sm_a v k), .int x0, .int x1, .int x2, .int x3, .int x4] M o r M') (hsz : ls.size = nL) (hR : rm_Part_addFix.frames + 1 ≤ R.frames ∧ 8 + (6 + 11) + rm_Part_addFix.locals ≤ R.locals) (hcs : cells + 0 ≤ R.cells ∧ slots + 0 ≤ R.slots) (hW : (rest.map fun v => v.category).sum ≤ 8) (hdg : decode cc pc = .ok (.invokevirtual 97, 3))
    (kk : ∀ (H : Heap) (locs : List Loc), sm_G v M' o s H locs → W p l e R s m args below meth c H locs cells slots Q (F0 m (pc + 3) ls (.int r :: rest))) : W p l e R s m args below meth c H locs cells slots Q (F0 m pc ls (.int x4 :: .int x3 :: .int x2 :: .int x1 :: .int x0 :: .ref (sm_a v k) :: rest)) :=
  sm_calli (va_runV (C := R_Part) (As := [.int x0, .int x1, .int x2, .int x3, .int x4]) (rest := rest) hC hM (cwV 5 hC.2.2.2.2 (sm_good (sm_inV aw_430 aw_431 aw_432 aw_3 aw_433)) rfl rfl rfl (by decide +kernel) hR) (sm_preV hK hG (sm_p hk).1 (sm_p hk).2 rfl) rfl rfl hsz rfl (lv_room hW) hdg hcs) hG kk
abbrev w_Mill_fix : List Cond := Cond.code y_Mill_fix b_Mill_fix 8 (some .int) :: sm_AW
abbrev rm_Mill_fix : Room := { frames := 6, cells := 1, slots := 6, locals := 90 }
def f_Mill_fix (M : sm_M) (a0 : Int32) (a1 : Int32) (a2 : Int32) (a3 : Int32) (a4 : Int32) (a5 : Int32) : Option ((Int32 × sm_M) ⊕ Nat) :=
sm_b1 (f_Mill_isBelow a0 (4 : Int32)) fun r2_2 =>
(if r2_2 = 0 then
(some (.inr 1))
else
sm_b1 (f_Mill_isSection a1) fun r9_6 =>
(if r9_6 = 0 then
(some (.inr 1))
else
sm_b1 (f_Mill_isBelow a3 (5 : Int32)) fun r18_10 =>
(if r18_10 = 0 then
(some (.inr 1))
else
sm_b1 (f_Mill_isBelow a4 (16 : Int32)) fun r28_14 =>
(if r28_14 = 0 then
(some (.inr 1))
else
(if a5 < (-20000 : Int32) then
(some (.inr 1))
else
(if a5 ≤ (20000 : Int32) then
sm_gd a0 4 (
sm_nm (3 + 14 * Int32.toNatClampNeg a0) fun k66_20 =>
sm_b1 (f_Part_sectionOf M k66_20 a1) fun r73_22 =>
sm_b1 (f_Mill_isBelow a2 (M r73_22 1)) fun r79_25 =>
(if r79_25 = 0 then
(some (.inr 1))
else
(if (M k66_20 12) = (16 : Int32) then
(some (.inr 2))
else
sm_b2 (f_Part_addFix M k66_20 a1 a2 a3 a4 a5) fun r121_30 M121_31 =>
(some (.inl (r121_30, M121_31))))))
else
(some (.inr 1))))))))
set_option maxHeartbeats 4000000 in
set_option maxRecDepth 100000 in
theorem c_Mill_fix {l : Launch} {v : sm_V} {o : sm_O} {M : sm_M} {a0 : Int32} {a1 : Int32} {a2 : Int32} {a3 : Int32} {a4 : Int32} {a5 : Int32} {q : (Int32 × sm_M) ⊕ Nat} (hfl : l.flags = pinnedFlags ++ [noTraceFlag]) (hf : f_Mill_fix M a0 a1 a2 a3 a4 a5 = some q) : sm_X l y_Mill_fix w_Mill_fix rm_Mill_fix v [.ref (sm_a v 0), .int a0, .int a1, .int a2, .int a3, .int a4, .int a5] M o q := by
  refine sm_metX (cc := b_Mill_fix) (nL := 8) (ret := some .int) (by decide) rfl (Nat.le_of_ble_eq_true rfl) (fun p e s m args below meth c hC hr hlk hne hK hG ls hl => ?_)
  have hx := hC.1
  have hb := hC.2.1
  have hl : lv_has ls 8 [(0, .ref (sm_a v 0)), (1, .int a0), (2, .int a1), (3, .int a2), (4, .int a3), (5, .int a4), (6, .int a5)] := hl
  unfold f_Mill_fix at hf
  refine lv_iload_n hx hb d_Mill_fix_0 rfl (lv_at hl 1 rfl) ?_
  refine lv_iconst (v := 4) hx hb d_Mill_fix_1 (by decide) ?_
  obtain ⟨r2_2, hc2_1, hf⟩ := sm_of_b1 hf
  refine ca_Mill_30 hC hK hG (c_Mill_isBelow hc2_1) hl.1 ⟨Nat.le_of_ble_eq_true rfl, Nat.le_of_ble_eq_true rfl⟩ ⟨Nat.zero_le _, Nat.zero_le _⟩ (Nat.le_of_ble_eq_true rfl) d_Mill_fix_2 ?_
  refine lv_if_eq hx hb d_Mill_fix_5 rfl (fun h5_4 => ?_) (fun h5_4 => ?_)
  · have hf := sm_t h5_4 hf
    obtain rfl := Option.some.inj hf
    exact sm_throw hfl hC hlk hne hG hl.1 (by decide) (tl_Mill_40 hC) (ti_1 hC) (ta_Mill_42 hC hK) ⟨Nat.le_of_ble_eq_true rfl, Nat.le_of_ble_eq_true rfl, Nat.le_of_ble_eq_true rfl, Nat.le_of_ble_eq_true rfl⟩ d_Mill_fix_50 d_Mill_fix_53 d_Mill_fix_54 d_Mill_fix_57
  · have hf := sm_f h5_4 hf
    refine lv_iload_n hx hb d_Mill_fix_8 rfl (lv_at hl 2 rfl) ?_
    obtain ⟨r9_6, hc9_5, hf⟩ := sm_of_b1 hf
    refine ca_Mill_73 hC hK hG (c_Mill_isSection hc9_5) hl.1 ⟨Nat.le_of_ble_eq_true rfl, Nat.le_of_ble_eq_true rfl⟩ ⟨Nat.zero_le _, Nat.zero_le _⟩ (Nat.le_of_ble_eq_true rfl) d_Mill_fix_9 ?_
    refine lv_if_eq hx hb d_Mill_fix_12 rfl (fun h12_8 => ?_) (fun h12_8 => ?_)
    · have hf := sm_t h12_8 hf
      obtain rfl := Option.some.inj hf
      exact sm_throw hfl hC hlk hne hG hl.1 (by decide) (tl_Mill_40 hC) (ti_1 hC) (ta_Mill_42 hC hK) ⟨Nat.le_of_ble_eq_true rfl, Nat.le_of_ble_eq_true rfl, Nat.le_of_ble_eq_true rfl, Nat.le_of_ble_eq_true rfl⟩ d_Mill_fix_50 d_Mill_fix_53 d_Mill_fix_54 d_Mill_fix_57
    · have hf := sm_f h12_8 hf
      refine lv_iload hx hb d_Mill_fix_15 (lv_at hl 4 rfl) ?_
      refine lv_iconst (v := 5) hx hb d_Mill_fix_17 (by decide) ?_
      obtain ⟨r18_10, hc18_9, hf⟩ := sm_of_b1 hf
      refine ca_Mill_30 hC hK hG (c_Mill_isBelow hc18_9) hl.1 ⟨Nat.le_of_ble_eq_true rfl, Nat.le_of_ble_eq_true rfl⟩ ⟨Nat.zero_le _, Nat.zero_le _⟩ (Nat.le_of_ble_eq_true rfl) d_Mill_fix_18 ?_
      refine lv_if_eq hx hb d_Mill_fix_21 rfl (fun h21_12 => ?_) (fun h21_12 => ?_)
      · have hf := sm_t h21_12 hf
        obtain rfl := Option.some.inj hf
        exact sm_throw hfl hC hlk hne hG hl.1 (by decide) (tl_Mill_40 hC) (ti_1 hC) (ta_Mill_42 hC hK) ⟨Nat.le_of_ble_eq_true rfl, Nat.le_of_ble_eq_true rfl, Nat.le_of_ble_eq_true rfl, Nat.le_of_ble_eq_true rfl⟩ d_Mill_fix_50 d_Mill_fix_53 d_Mill_fix_54 d_Mill_fix_57
      · have hf := sm_f h21_12 hf
        refine lv_iload hx hb d_Mill_fix_24 (lv_at hl 5 rfl) ?_
        refine lv_bipush (v := 16) hx hb d_Mill_fix_26 (by decide) ?_
        obtain ⟨r28_14, hc28_13, hf⟩ := sm_of_b1 hf
        refine ca_Mill_30 hC hK hG (c_Mill_isBelow hc28_13) hl.1 ⟨Nat.le_of_ble_eq_true rfl, Nat.le_of_ble_eq_true rfl⟩ ⟨Nat.zero_le _, Nat.zero_le _⟩ (Nat.le_of_ble_eq_true rfl) d_Mill_fix_28 ?_
        refine lv_if_eq hx hb d_Mill_fix_31 rfl (fun h31_16 => ?_) (fun h31_16 => ?_)
        · have hf := sm_t h31_16 hf
          obtain rfl := Option.some.inj hf
          exact sm_throw hfl hC hlk hne hG hl.1 (by decide) (tl_Mill_40 hC) (ti_1 hC) (ta_Mill_42 hC hK) ⟨Nat.le_of_ble_eq_true rfl, Nat.le_of_ble_eq_true rfl, Nat.le_of_ble_eq_true rfl, Nat.le_of_ble_eq_true rfl⟩ d_Mill_fix_50 d_Mill_fix_53 d_Mill_fix_54 d_Mill_fix_57
        · have hf := sm_f h31_16 hf
          refine lv_iload hx hb d_Mill_fix_34 (lv_at hl 6 rfl) ?_
          refine lv_sipush (v := -20000) hx hb d_Mill_fix_36 (by decide) ?_
          refine lv_icmp_lt hx hb d_Mill_fix_39 rfl (fun h39_17 => ?_) (fun h39_17 => ?_)
          · have hf := sm_t h39_17 hf
            obtain rfl := Option.some.inj hf
            exact sm_throw hfl hC hlk hne hG hl.1 (by decide) (tl_Mill_40 hC) (ti_1 hC) (ta_Mill_42 hC hK) ⟨Nat.le_of_ble_eq_true rfl, Nat.le_of_ble_eq_true rfl, Nat.le_of_ble_eq_true rfl, Nat.le_of_ble_eq_true rfl⟩ d_Mill_fix_50 d_Mill_fix_53 d_Mill_fix_54 d_Mill_fix_57
          · have hf := sm_f h39_17 hf
            refine lv_iload hx hb d_Mill_fix_42 (lv_at hl 6 rfl) ?_
            refine lv_sipush (v := 20000) hx hb d_Mill_fix_44 (by decide) ?_
            refine lv_icmp_le hx hb d_Mill_fix_47 rfl (fun h47_18 => ?_) (fun h47_18 => ?_)
            · have hf := sm_t h47_18 hf
              refine lv_aload_n hx hb d_Mill_fix_58 rfl (lv_at hl 0 rfl) ?_
              refine gf_Mill_10 hC hK hG d_Mill_fix_59 ?_
              refine gf_Mill_43 hC hK hG d_Mill_fix_62 ?_
              refine lv_iload_n hx hb d_Mill_fix_65 rfl (lv_at hl 1 rfl) ?_
              obtain ⟨h66_19, hf⟩ := sm_of_gd hf
              refine sm_aald hC hK hG h66_19 d_Mill_fix_66 (fun k66_20 ek66_20 hk66_20 => ?_)
              have hf := sm_of ek66_20 hf
              refine lv_astore hx hb d_Mill_fix_67 hl (Nat.le_of_ble_eq_true rfl) rfl (fun ls hl => ?_)
              have hl : lv_has ls 8 [(7, .ref (sm_a v k66_20)), (0, .ref (sm_a v 0)), (1, .int a0), (2, .int a1), (3, .int a2), (4, .int a3), (5, .int a4), (6, .int a5)] := hl
              have hl : lv_has ls 8 [(7, .ref (sm_a v k66_20)), (2, .int a1), (3, .int a2), (4, .int a3), (5, .int a4), (6, .int a5)] := lv_sub hl [0, 3, 4, 5, 6, 7] rfl
              refine lv_iload_n hx hb d_Mill_fix_69 rfl (lv_at hl 2 rfl) ?_
              refine lv_aload hx hb d_Mill_fix_70 (lv_at hl 0 rfl) ?_
              refine lv_iload_n hx hb d_Mill_fix_72 rfl (lv_at hl 1 rfl) ?_
              obtain ⟨r73_22, hc73_21, hf⟩ := sm_of_b1 hf
              refine ca_Mill_77 hC hK hG hk66_20 (c_Part_sectionOf hk66_20 hc73_21) hl.1 ⟨Nat.le_of_ble_eq_true rfl, Nat.le_of_ble_eq_true rfl⟩ ⟨Nat.zero_le _, Nat.zero_le _⟩ (Nat.le_of_ble_eq_true rfl) d_Mill_fix_73 ?_
              have hr73_22 := sm_secOf hk66_20 hc73_21
              refine gf_Mill_81 hC hK hG hr73_22 d_Mill_fix_76 ?_
              obtain ⟨r79_25, hc79_24, hf⟩ := sm_of_b1 hf
              refine ca_Mill_30 hC hK hG (c_Mill_isBelow hc79_24) hl.1 ⟨Nat.le_of_ble_eq_true rfl, Nat.le_of_ble_eq_true rfl⟩ ⟨Nat.zero_le _, Nat.zero_le _⟩ (Nat.le_of_ble_eq_true rfl) d_Mill_fix_79 ?_
              refine lv_if_ne hx hb d_Mill_fix_82 rfl (fun h82_27 => ?_) (fun h82_27 => ?_)
              · have hf := sm_f h82_27 hf
                refine lv_aload hx hb d_Mill_fix_93 (lv_at hl 0 rfl) ?_
                refine gf_Mill_94 hC hK hG hk66_20 d_Mill_fix_95 ?_
                refine lv_bipush (v := 16) hx hb d_Mill_fix_98 (by decide) ?_
                refine lv_icmp_ne hx hb d_Mill_fix_100 rfl (fun h100_28 => ?_) (fun h100_28 => ?_)
                · have hf := sm_f h100_28 hf
                  refine lv_aload hx hb d_Mill_fix_111 (lv_at hl 0 rfl) ?_
                  refine lv_iload_n hx hb d_Mill_fix_113 rfl (lv_at hl 1 rfl) ?_
                  refine lv_iload_n hx hb d_Mill_fix_114 rfl (lv_at hl 2 rfl) ?_
                  refine lv_iload hx hb d_Mill_fix_115 (lv_at hl 3 rfl) ?_
                  refine lv_iload hx hb d_Mill_fix_117 (lv_at hl 4 rfl) ?_
                  refine lv_iload hx hb d_Mill_fix_119 (lv_at hl 5 rfl) ?_
                  obtain ⟨r121_30, M121_31, hc121_29, hf⟩ := sm_of_b2 hf
                  refine ca_Mill_97 hC hK hG hk66_20 (c_Part_addFix hk66_20 hc121_29) hl.1 ⟨Nat.le_of_ble_eq_true rfl, Nat.le_of_ble_eq_true rfl⟩ ⟨Nat.zero_le _, Nat.zero_le _⟩ (Nat.le_of_ble_eq_true rfl) d_Mill_fix_121 (fun H locs hG => ?_)
                  obtain rfl := Option.some.inj hf
                  exact sm_iretX hC hr hlk hG d_Mill_fix_124
                · have hf := sm_t h100_28 hf
                  obtain rfl := Option.some.inj hf
                  exact sm_throw hfl hC hlk hne hG hl.1 (by decide) (tl_Mill_59 hC) (ti_2 hC) (ta_Mill_61 hC hK) ⟨Nat.le_of_ble_eq_true rfl, Nat.le_of_ble_eq_true rfl, Nat.le_of_ble_eq_true rfl, Nat.le_of_ble_eq_true rfl⟩ d_Mill_fix_103 d_Mill_fix_106 d_Mill_fix_107 d_Mill_fix_110
              · have hf := sm_t h82_27 hf
                obtain rfl := Option.some.inj hf
                exact sm_throw hfl hC hlk hne hG hl.1 (by decide) (tl_Mill_40 hC) (ti_1 hC) (ta_Mill_42 hC hK) ⟨Nat.le_of_ble_eq_true rfl, Nat.le_of_ble_eq_true rfl, Nat.le_of_ble_eq_true rfl, Nat.le_of_ble_eq_true rfl⟩ d_Mill_fix_85 d_Mill_fix_88 d_Mill_fix_89 d_Mill_fix_92
            · have hf := sm_f h47_18 hf
              obtain rfl := Option.some.inj hf
              exact sm_throw hfl hC hlk hne hG hl.1 (by decide) (tl_Mill_40 hC) (ti_1 hC) (ta_Mill_42 hC hK) ⟨Nat.le_of_ble_eq_true rfl, Nat.le_of_ble_eq_true rfl, Nat.le_of_ble_eq_true rfl, Nat.le_of_ble_eq_true rfl⟩ d_Mill_fix_50 d_Mill_fix_53 d_Mill_fix_54 d_Mill_fix_57
theorem ca_Mill_101 {p : Program} {l : Launch} {e : Env} {R : Room} {s : State} {m : MethodId} {args : Array Value} {below : List Frame} {meth : Method} {c : Code} {H : Heap} {locs : List Loc} {cells slots : Nat} {Q : State → Prop} {cc : ByteArray} {nL pc : Nat} {ls : Array Slot} {rest : List Value} {w0 : Cond} {v : sm_V} {M : sm_M} {o : sm_O} {M' : sm_M} (hC : CallFix p m c cc nL s args (w0 :: sm_AW) R_Mill) (hK : sm_K v s) (hG : sm_G v M o s H locs) {k : Nat} (hk : sm_isP k) (hM : sm_Cv l y_Part_empty w_Part_empty rm_Part_empty v [.ref (sm_a v k)] M o M') (hsz : ls.size = nL) (hR : rm_Part_empty.frames + 1 ≤ R.frames ∧ 8 + (1 + 11) + rm_Part_empty.locals ≤ R.locals) (hcs : cells + 0 ≤ R.cells ∧ slots + 0 ≤ R.slots) (hW : (rest.map fun v => v.category).sum ≤ 8) (hdg : decode cc pc = .ok (.invokevirtual 101, 3))
    (kk : ∀ (H : Heap) (locs : List Loc), sm_G v M' o s H locs → W p l e R s m args below meth c H locs cells slots Q (F0 m (pc + 3) ls (rest))) : W p l e R s m args below meth c H locs cells slots Q (F0 m pc ls (.ref (sm_a v k) :: rest)) :=
  sm_callv (va_runV (C := R_Part) (As := []) (rest := rest) hC hM (cwV 0 hC.2.2.2.2 (sm_good (sm_inV aw_441 aw_442 aw_443 aw_3 aw_444)) rfl rfl rfl (by decide +kernel) hR) (sm_preV hK hG (sm_p hk).1 (sm_p hk).2 rfl) rfl rfl hsz rfl (lv_room hW) hdg hcs) hG kk
abbrev w_Mill_clear : List Cond := Cond.code y_Mill_clear b_Mill_clear 2 (some .boolean) :: sm_AW
abbrev rm_Mill_clear : Room := { frames := 6, cells := 1, slots := 6, locals := 90 }
def f_Mill_clear (M : sm_M) (a0 : Int32) : Option ((Int32 × sm_M) ⊕ Nat) :=
sm_b1 (f_Mill_isBelow a0 (4 : Int32)) fun r2_2 =>
(if r2_2 = 0 then
(some (.inr 1))
else
sm_gd a0 4 (
sm_nm (3 + 14 * Int32.toNatClampNeg a0) fun k24_6 =>
sm_b1 (f_Part_empty M k24_6) fun M25_9 =>
(some (.inl ((1 : Int32), M25_9)))))
set_option maxHeartbeats 4000000 in
set_option maxRecDepth 100000 in
theorem c_Mill_clear {l : Launch} {v : sm_V} {o : sm_O} {M : sm_M} {a0 : Int32} {q : (Int32 × sm_M) ⊕ Nat} (hfl : l.flags = pinnedFlags ++ [noTraceFlag]) (hf : f_Mill_clear M a0 = some q) : sm_X l y_Mill_clear w_Mill_clear rm_Mill_clear v [.ref (sm_a v 0), .int a0] M o q := by
  refine sm_metX (cc := b_Mill_clear) (nL := 2) (ret := some .boolean) (by decide) rfl (Nat.le_of_ble_eq_true rfl) (fun p e s m args below meth c hC hr hlk hne hK hG ls hl => ?_)
  have hx := hC.1
  have hb := hC.2.1
  have hl : lv_has ls 2 [(0, .ref (sm_a v 0)), (1, .int a0)] := hl
  unfold f_Mill_clear at hf
  refine lv_iload_n hx hb d_Mill_clear_0 rfl (lv_at hl 1 rfl) ?_
  refine lv_iconst (v := 4) hx hb d_Mill_clear_1 (by decide) ?_
  obtain ⟨r2_2, hc2_1, hf⟩ := sm_of_b1 hf
  refine ca_Mill_30 hC hK hG (c_Mill_isBelow hc2_1) hl.1 ⟨Nat.le_of_ble_eq_true rfl, Nat.le_of_ble_eq_true rfl⟩ ⟨Nat.zero_le _, Nat.zero_le _⟩ (Nat.le_of_ble_eq_true rfl) d_Mill_clear_2 ?_
  refine lv_if_ne hx hb d_Mill_clear_5 rfl (fun h5_4 => ?_) (fun h5_4 => ?_)
  · have hf := sm_f h5_4 hf
    refine lv_aload_n hx hb d_Mill_clear_16 rfl (lv_at hl 0 rfl) ?_
    refine gf_Mill_10 hC hK hG d_Mill_clear_17 ?_
    refine gf_Mill_43 hC hK hG d_Mill_clear_20 ?_
    refine lv_iload_n hx hb d_Mill_clear_23 rfl (lv_at hl 1 rfl) ?_
    obtain ⟨h24_5, hf⟩ := sm_of_gd hf
    refine sm_aald hC hK hG h24_5 d_Mill_clear_24 (fun k24_6 ek24_6 hk24_6 => ?_)
    have hf := sm_of ek24_6 hf
    obtain ⟨M25_9, hc25_7, hf⟩ := sm_of_b1 hf
    refine ca_Mill_101 hC hK hG hk24_6 (c_Part_empty hk24_6 hc25_7) hl.1 ⟨Nat.le_of_ble_eq_true rfl, Nat.le_of_ble_eq_true rfl⟩ ⟨Nat.zero_le _, Nat.zero_le _⟩ (Nat.le_of_ble_eq_true rfl) d_Mill_clear_25 (fun H locs hG => ?_)
    refine lv_iconst (v := 1) hx hb d_Mill_clear_28 (by decide) ?_
    obtain rfl := Option.some.inj hf
    exact sm_zretX hC hr rfl hlk hG d_Mill_clear_29
  · have hf := sm_t h5_4 hf
    obtain rfl := Option.some.inj hf
    exact sm_throw hfl hC hlk hne hG hl.1 (by decide) (tl_Mill_40 hC) (ti_1 hC) (ta_Mill_42 hC hK) ⟨Nat.le_of_ble_eq_true rfl, Nat.le_of_ble_eq_true rfl, Nat.le_of_ble_eq_true rfl, Nat.le_of_ble_eq_true rfl⟩ d_Mill_clear_8 d_Mill_clear_11 d_Mill_clear_12 d_Mill_clear_15
theorem ca_Mill_105 {p : Program} {l : Launch} {e : Env} {R : Room} {s : State} {m : MethodId} {args : Array Value} {below : List Frame} {meth : Method} {c : Code} {H : Heap} {locs : List Loc} {cells slots : Nat} {Q : State → Prop} {cc : ByteArray} {nL pc : Nat} {ls : Array Slot} {rest : List Value} {w0 : Cond} {v : sm_V} {M : sm_M} {o : sm_O} {x1 : Int32} {x2 : Int32} {r : Int32} {M' : sm_M} (hC : CallFix p m c cc nL s args (w0 :: sm_AW) R_Mill) (hK : sm_K v s) (hG : sm_G v M o s H locs) (hM : sm_Ci l y_Linker_build w_Linker_build rm_Linker_build v [.ref (sm_a v 1), .ref (sm_a v 62), .int x1, .int x2] M o r M') (hsz : ls.size = nL) (hR : rm_Linker_build.frames + 1 ≤ R.frames ∧ 8 + (6 + 11) + rm_Linker_build.locals ≤ R.locals) (hcs : cells + 0 ≤ R.cells ∧ slots + 0 ≤ R.slots) (hW : (rest.map fun v => v.category).sum ≤ 8) (hdg : decode cc pc = .ok (.invokevirtual 105, 3))
    (kk : ∀ (H : Heap) (locs : List Loc), sm_G v M' o s H locs → W p l e R s m args below meth c H locs cells slots Q (F0 m (pc + 3) ls (.int r :: rest))) : W p l e R s m args below meth c H locs cells slots Q (F0 m pc ls (.int x2 :: .int x1 :: .ref (sm_a v 62) :: .ref (sm_a v 1) :: rest)) :=
  sm_calli (va_runV (C := R_Linker) (As := [.ref (sm_a v 62), .int x1, .int x2]) (rest := rest) hC hM (cwV 3 hC.2.2.2.2 (sm_good (sm_inV aw_453 aw_454 aw_455 aw_2 aw_456)) rfl rfl rfl (by decide +kernel) hR) (sm_preV hK hG (by decide) rfl rfl) rfl rfl hsz rfl (lv_room hW) hdg hcs) hG kk
abbrev w_Mill_link : List Cond := Cond.code y_Mill_link b_Mill_link 3 (some .int) :: sm_AW
abbrev rm_Mill_link : Room := { frames := 7, cells := 1, slots := 6, locals := 162 }
def f_Mill_link (M : sm_M) (a0 : Int32) (a1 : Int32) : Option ((Int32 × sm_M) ⊕ Nat) :=
(if a0 < 0 then
(some (.inr 1))
else
(if (1000000000 : Int32) < a0 then
(some (.inr 1))
else
(if (a0 - a0 / (4 : Int32) * (4 : Int32)) = 0 then
sm_b1 (f_Mill_isBelow a1 (16 : Int32)) fun r19_5 =>
(if r19_5 = 0 then
(some (.inr 1))
else
sm_b2 (f_Linker_build M a0 a1) fun r43_9 M43_10 =>
(some (.inl (r43_9, M43_10))))
else
(some (.inr 1)))))
set_option maxHeartbeats 4000000 in
set_option maxRecDepth 100000 in
theorem c_Mill_link {l : Launch} {v : sm_V} {o : sm_O} {M : sm_M} {a0 : Int32} {a1 : Int32} {q : (Int32 × sm_M) ⊕ Nat} (hfl : l.flags = pinnedFlags ++ [noTraceFlag]) (hf : f_Mill_link M a0 a1 = some q) : sm_X l y_Mill_link w_Mill_link rm_Mill_link v [.ref (sm_a v 0), .int a0, .int a1] M o q := by
  refine sm_metX (cc := b_Mill_link) (nL := 3) (ret := some .int) (by decide) rfl (Nat.le_of_ble_eq_true rfl) (fun p e s m args below meth c hC hr hlk hne hK hG ls hl => ?_)
  have hx := hC.1
  have hb := hC.2.1
  have hl : lv_has ls 3 [(0, .ref (sm_a v 0)), (1, .int a0), (2, .int a1)] := hl
  unfold f_Mill_link at hf
  refine lv_iload_n hx hb d_Mill_link_0 rfl (lv_at hl 1 rfl) ?_
  refine lv_if_lt hx hb d_Mill_link_1 rfl (fun h1_1 => ?_) (fun h1_1 => ?_)
  · have hf := sm_t h1_1 hf
    obtain rfl := Option.some.inj hf
    exact sm_throw hfl hC hlk hne hG hl.1 (by decide) (tl_Mill_40 hC) (ti_1 hC) (ta_Mill_42 hC hK) ⟨Nat.le_of_ble_eq_true rfl, Nat.le_of_ble_eq_true rfl, Nat.le_of_ble_eq_true rfl, Nat.le_of_ble_eq_true rfl⟩ d_Mill_link_25 d_Mill_link_28 d_Mill_link_29 d_Mill_link_32
  · have hf := sm_f h1_1 hf
    refine lv_iload_n hx hb d_Mill_link_4 rfl (lv_at hl 1 rfl) ?_
    refine lv_ldc hx hb hC.2.2.2.1 (hC.2.2.2.2 _ (List.mem_cons_of_mem _ aw_452)) d_Mill_link_5 ?_
    refine lv_icmp_gt hx hb d_Mill_link_7 rfl (fun h7_2 => ?_) (fun h7_2 => ?_)
    · have hf := sm_t h7_2 hf
      obtain rfl := Option.some.inj hf
      exact sm_throw hfl hC hlk hne hG hl.1 (by decide) (tl_Mill_40 hC) (ti_1 hC) (ta_Mill_42 hC hK) ⟨Nat.le_of_ble_eq_true rfl, Nat.le_of_ble_eq_true rfl, Nat.le_of_ble_eq_true rfl, Nat.le_of_ble_eq_true rfl⟩ d_Mill_link_25 d_Mill_link_28 d_Mill_link_29 d_Mill_link_32
    · have hf := sm_f h7_2 hf
      refine lv_iload_n hx hb d_Mill_link_10 rfl (lv_at hl 1 rfl) ?_
      refine lv_iconst (v := 4) hx hb d_Mill_link_11 (by decide) ?_
      refine lv_irem hx hb d_Mill_link_12 (by decide) ?_
      refine lv_if_ne hx hb d_Mill_link_13 rfl (fun h13_3 => ?_) (fun h13_3 => ?_)
      · have hf := sm_f h13_3 hf
        obtain rfl := Option.some.inj hf
        exact sm_throw hfl hC hlk hne hG hl.1 (by decide) (tl_Mill_40 hC) (ti_1 hC) (ta_Mill_42 hC hK) ⟨Nat.le_of_ble_eq_true rfl, Nat.le_of_ble_eq_true rfl, Nat.le_of_ble_eq_true rfl, Nat.le_of_ble_eq_true rfl⟩ d_Mill_link_25 d_Mill_link_28 d_Mill_link_29 d_Mill_link_32
      · have hf := sm_t h13_3 hf
        refine lv_iload_n hx hb d_Mill_link_16 rfl (lv_at hl 2 rfl) ?_
        refine lv_bipush (v := 16) hx hb d_Mill_link_17 (by decide) ?_
        obtain ⟨r19_5, hc19_4, hf⟩ := sm_of_b1 hf
        refine ca_Mill_30 hC hK hG (c_Mill_isBelow hc19_4) hl.1 ⟨Nat.le_of_ble_eq_true rfl, Nat.le_of_ble_eq_true rfl⟩ ⟨Nat.zero_le _, Nat.zero_le _⟩ (Nat.le_of_ble_eq_true rfl) d_Mill_link_19 ?_
        refine lv_if_ne hx hb d_Mill_link_22 rfl (fun h22_7 => ?_) (fun h22_7 => ?_)
        · have hf := sm_f h22_7 hf
          refine lv_aload_n hx hb d_Mill_link_33 rfl (lv_at hl 0 rfl) ?_
          refine gf_Mill_10 hC hK hG d_Mill_link_34 ?_
          refine lv_aload_n hx hb d_Mill_link_37 rfl (lv_at hl 0 rfl) ?_
          refine gf_Mill_19 hC hK hG d_Mill_link_38 ?_
          refine lv_iload_n hx hb d_Mill_link_41 rfl (lv_at hl 1 rfl) ?_
          refine lv_iload_n hx hb d_Mill_link_42 rfl (lv_at hl 2 rfl) ?_
          obtain ⟨r43_9, M43_10, hc43_8, hf⟩ := sm_of_b2 hf
          refine ca_Mill_105 hC hK hG (c_Linker_build hc43_8) hl.1 ⟨Nat.le_of_ble_eq_true rfl, Nat.le_of_ble_eq_true rfl⟩ ⟨Nat.zero_le _, Nat.zero_le _⟩ (Nat.le_of_ble_eq_true rfl) d_Mill_link_43 (fun H locs hG => ?_)
          obtain rfl := Option.some.inj hf
          exact sm_iretX hC hr hlk hG d_Mill_link_46
        · have hf := sm_t h22_7 hf
          obtain rfl := Option.some.inj hf
          exact sm_throw hfl hC hlk hne hG hl.1 (by decide) (tl_Mill_40 hC) (ti_1 hC) (ta_Mill_42 hC hK) ⟨Nat.le_of_ble_eq_true rfl, Nat.le_of_ble_eq_true rfl, Nat.le_of_ble_eq_true rfl, Nat.le_of_ble_eq_true rfl⟩ d_Mill_link_25 d_Mill_link_28 d_Mill_link_29 d_Mill_link_32
abbrev w_Mill_image : List Cond := Cond.code y_Mill_image b_Mill_image 2 (some .int) :: sm_AW
abbrev rm_Mill_image : Room := { frames := 1, cells := 0, slots := 0, locals := 21 }
def f_Mill_image (M : sm_M) (a0 : Int32) : Option (Int32) :=
sm_b1 (f_Mill_isBelow a0 (M 62 1)) fun r8_2 =>
(if r8_2 = 0 then
(some (-1 : Int32))
else
sm_gd a0 1000 (
(some (M 63 (Int32.toNatClampNeg a0)))))
set_option maxHeartbeats 4000000 in
set_option maxRecDepth 100000 in
theorem c_Mill_image {l : Launch} {v : sm_V} {o : sm_O} {M : sm_M} {a0 : Int32} {r : Int32} (hf : f_Mill_image M a0 = some r) : sm_Ri l y_Mill_image w_Mill_image rm_Mill_image v [.ref (sm_a v 0), .int a0] M o r  := by
  refine sm_met (cc := b_Mill_image) (nL := 2) (ret := some .int) (plainFor_of_name (by decide)) rfl (Nat.le_of_ble_eq_true rfl) (fun p e s m args below meth c hC hr hlk hK hG ls hl => ?_)
  have hx := hC.1
  have hb := hC.2.1
  have hl : lv_has ls 2 [(0, .ref (sm_a v 0)), (1, .int a0)] := hl
  unfold f_Mill_image at hf
  refine lv_iload_n hx hb d_Mill_image_0 rfl (lv_at hl 1 rfl) ?_
  refine lv_aload_n hx hb d_Mill_image_1 rfl (lv_at hl 0 rfl) ?_
  refine gf_Mill_19 hC hK hG d_Mill_image_2 ?_
  refine gf_Mill_109 hC hK hG d_Mill_image_5 ?_
  obtain ⟨r8_2, hc8_1, hf⟩ := sm_of_b1 hf
  refine ca_Mill_30 hC hK hG (c_Mill_isBelow hc8_1) hl.1 ⟨Nat.le_of_ble_eq_true rfl, Nat.le_of_ble_eq_true rfl⟩ ⟨Nat.zero_le _, Nat.zero_le _⟩ (Nat.le_of_ble_eq_true rfl) d_Mill_image_8 ?_
  refine lv_if_eq hx hb d_Mill_image_11 rfl (fun h11_4 => ?_) (fun h11_4 => ?_)
  · have hf := sm_t h11_4 hf
    refine lv_iconst (v := -1) hx hb d_Mill_image_26 (by decide) ?_
    obtain rfl := Option.some.inj hf
    exact sm_iret0 hC hr hlk d_Mill_image_27
  · have hf := sm_f h11_4 hf
    refine lv_aload_n hx hb d_Mill_image_14 rfl (lv_at hl 0 rfl) ?_
    refine gf_Mill_19 hC hK hG d_Mill_image_15 ?_
    refine gf_Mill_112 hC hK hG d_Mill_image_18 ?_
    refine lv_iload_n hx hb d_Mill_image_21 rfl (lv_at hl 1 rfl) ?_
    obtain ⟨h22_5, hf⟩ := sm_of_gd hf
    refine sm_iald hC hK hG (by decide) rfl h22_5 d_Mill_image_22 ?_
    refine lv_goto hx hb d_Mill_image_23 rfl ?_
    obtain rfl := Option.some.inj hf
    exact sm_iret0 hC hr hlk d_Mill_image_27
abbrev w_Mill_alter : List Cond := Cond.code y_Mill_alter b_Mill_alter 3 (some .boolean) :: sm_AW
abbrev rm_Mill_alter : Room := { frames := 6, cells := 1, slots := 6, locals := 90 }
def f_Mill_alter (M : sm_M) (a0 : Int32) (a1 : Int32) : Option ((Int32 × sm_M) ⊕ Nat) :=
sm_b1 (f_Mill_isBelow a0 (M 62 1)) fun r8_2 =>
(if r8_2 = 0 then
(some (.inr 1))
else
sm_b1 (f_Mill_isBelow a1 (256 : Int32)) fun r18_6 =>
(if r18_6 = 0 then
(some (.inr 1))
else
sm_gd a0 1000 (
sm_nm (sm_up M 63 (Int32.toNatClampNeg a0) a1) fun M41_10 =>
(some (.inl ((1 : Int32), M41_10))))))
set_option maxHeartbeats 4000000 in
set_option maxRecDepth 100000 in
theorem c_Mill_alter {l : Launch} {v : sm_V} {o : sm_O} {M : sm_M} {a0 : Int32} {a1 : Int32} {q : (Int32 × sm_M) ⊕ Nat} (hfl : l.flags = pinnedFlags ++ [noTraceFlag]) (hf : f_Mill_alter M a0 a1 = some q) : sm_X l y_Mill_alter w_Mill_alter rm_Mill_alter v [.ref (sm_a v 0), .int a0, .int a1] M o q := by
  refine sm_metX (cc := b_Mill_alter) (nL := 3) (ret := some .boolean) (by decide) rfl (Nat.le_of_ble_eq_true rfl) (fun p e s m args below meth c hC hr hlk hne hK hG ls hl => ?_)
  have hx := hC.1
  have hb := hC.2.1
  have hl : lv_has ls 3 [(0, .ref (sm_a v 0)), (1, .int a0), (2, .int a1)] := hl
  unfold f_Mill_alter at hf
  refine lv_iload_n hx hb d_Mill_alter_0 rfl (lv_at hl 1 rfl) ?_
  refine lv_aload_n hx hb d_Mill_alter_1 rfl (lv_at hl 0 rfl) ?_
  refine gf_Mill_19 hC hK hG d_Mill_alter_2 ?_
  refine gf_Mill_109 hC hK hG d_Mill_alter_5 ?_
  obtain ⟨r8_2, hc8_1, hf⟩ := sm_of_b1 hf
  refine ca_Mill_30 hC hK hG (c_Mill_isBelow hc8_1) hl.1 ⟨Nat.le_of_ble_eq_true rfl, Nat.le_of_ble_eq_true rfl⟩ ⟨Nat.zero_le _, Nat.zero_le _⟩ (Nat.le_of_ble_eq_true rfl) d_Mill_alter_8 ?_
  refine lv_if_eq hx hb d_Mill_alter_11 rfl (fun h11_4 => ?_) (fun h11_4 => ?_)
  · have hf := sm_t h11_4 hf
    obtain rfl := Option.some.inj hf
    exact sm_throw hfl hC hlk hne hG hl.1 (by decide) (tl_Mill_40 hC) (ti_1 hC) (ta_Mill_42 hC hK) ⟨Nat.le_of_ble_eq_true rfl, Nat.le_of_ble_eq_true rfl, Nat.le_of_ble_eq_true rfl, Nat.le_of_ble_eq_true rfl⟩ d_Mill_alter_24 d_Mill_alter_27 d_Mill_alter_28 d_Mill_alter_31
  · have hf := sm_f h11_4 hf
    refine lv_iload_n hx hb d_Mill_alter_14 rfl (lv_at hl 2 rfl) ?_
    refine lv_sipush (v := 256) hx hb d_Mill_alter_15 (by decide) ?_
    obtain ⟨r18_6, hc18_5, hf⟩ := sm_of_b1 hf
    refine ca_Mill_30 hC hK hG (c_Mill_isBelow hc18_5) hl.1 ⟨Nat.le_of_ble_eq_true rfl, Nat.le_of_ble_eq_true rfl⟩ ⟨Nat.zero_le _, Nat.zero_le _⟩ (Nat.le_of_ble_eq_true rfl) d_Mill_alter_18 ?_
    refine lv_if_ne hx hb d_Mill_alter_21 rfl (fun h21_8 => ?_) (fun h21_8 => ?_)
    · have hf := sm_f h21_8 hf
      refine lv_aload_n hx hb d_Mill_alter_32 rfl (lv_at hl 0 rfl) ?_
      refine gf_Mill_19 hC hK hG d_Mill_alter_33 ?_
      refine gf_Mill_112 hC hK hG d_Mill_alter_36 ?_
      refine lv_iload_n hx hb d_Mill_alter_39 rfl (lv_at hl 1 rfl) ?_
      refine lv_iload_n hx hb d_Mill_alter_40 rfl (lv_at hl 2 rfl) ?_
      obtain ⟨h41_9, hf⟩ := sm_of_gd hf
      refine sm_iast hC hK hG (by decide) rfl h41_9 d_Mill_alter_41 (fun M41_10 H locs eM41_10 hG => ?_)
      have hf := sm_of eM41_10 hf
      refine lv_iconst (v := 1) hx hb d_Mill_alter_42 (by decide) ?_
      obtain rfl := Option.some.inj hf
      exact sm_zretX hC hr rfl hlk hG d_Mill_alter_43
    · have hf := sm_t h21_8 hf
      obtain rfl := Option.some.inj hf
      exact sm_throw hfl hC hlk hne hG hl.1 (by decide) (tl_Mill_40 hC) (ti_1 hC) (ta_Mill_42 hC hK) ⟨Nat.le_of_ble_eq_true rfl, Nat.le_of_ble_eq_true rfl, Nat.le_of_ble_eq_true rfl, Nat.le_of_ble_eq_true rfl⟩ d_Mill_alter_24 d_Mill_alter_27 d_Mill_alter_28 d_Mill_alter_31
theorem ca_Mill_118 {p : Program} {l : Launch} {e : Env} {R : Room} {s : State} {m : MethodId} {args : Array Value} {below : List Frame} {meth : Method} {c : Code} {H : Heap} {locs : List Loc} {cells slots : Nat} {Q : State → Prop} {cc : ByteArray} {nL pc : Nat} {ls : Array Slot} {rest : List Value} {w0 : Cond} {v : sm_V} {M : sm_M} {o : sm_O} {x0 : Int32} {M' : sm_M} (hC : CallFix p m c cc nL s args (w0 :: sm_AW) R_Mill) (hK : sm_K v s) (hG : sm_G v M o s H locs) (hM : sm_Cv l y_Image_resize w_Image_resize rm_Image_resize v [.ref (sm_a v 62), .int x0] M o M') (hsz : ls.size = nL) (hR : rm_Image_resize.frames + 1 ≤ R.frames ∧ 8 + (3 + 11) + rm_Image_resize.locals ≤ R.locals) (hcs : cells + 0 ≤ R.cells ∧ slots + 0 ≤ R.slots) (hW : (rest.map fun v => v.category).sum ≤ 8) (hdg : decode cc pc = .ok (.invokevirtual 118, 3))
    (kk : ∀ (H : Heap) (locs : List Loc), sm_G v M' o s H locs → W p l e R s m args below meth c H locs cells slots Q (F0 m (pc + 3) ls (rest))) : W p l e R s m args below meth c H locs cells slots Q (F0 m pc ls (.int x0 :: .ref (sm_a v 62) :: rest)) :=
  sm_callv (va_runV (C := R_Image) (As := [.int x0]) (rest := rest) hC hM (cwV 1 hC.2.2.2.2 (sm_good (sm_inV aw_577 aw_527 aw_528 aw_5 aw_529)) rfl rfl rfl (by decide +kernel) hR) (sm_preV hK hG (by decide) rfl rfl) rfl rfl hsz rfl (lv_room hW) hdg hcs) hG kk
abbrev w_Mill_stretch : List Cond := Cond.code y_Mill_stretch b_Mill_stretch 4 (some .int) :: sm_AW
abbrev rm_Mill_stretch : Room := { frames := 6, cells := 1, slots := 6, locals := 90 }
def f_Mill_stretch (M : sm_M) (a0 : Int32) : Option ((Int32 × sm_M) ⊕ Nat) :=
sm_nm ((Int32.toInt64 (M 62 1)) + (Int32.toInt64 a0)) fun x11_1 =>
(if (lg_cmp x11_1 (0 : Int64)) < 0 then
(some (.inr 1))
else
(if (lg_cmp x11_1 (1000 : Int64)) ≤ 0 then
sm_b1 (f_Image_resize M (Int64.toInt32 x11_1)) fun M40_6 =>
(some (.inl (M40_6 62 1, M40_6)))
else
(some (.inr 1))))
set_option maxHeartbeats 4000000 in
set_option maxRecDepth 100000 in
theorem c_Mill_stretch {l : Launch} {v : sm_V} {o : sm_O} {M : sm_M} {a0 : Int32} {q : (Int32 × sm_M) ⊕ Nat} (hfl : l.flags = pinnedFlags ++ [noTraceFlag]) (hf : f_Mill_stretch M a0 = some q) : sm_X l y_Mill_stretch w_Mill_stretch rm_Mill_stretch v [.ref (sm_a v 0), .int a0] M o q := by
  refine sm_metX (cc := b_Mill_stretch) (nL := 4) (ret := some .int) (by decide) rfl (Nat.le_of_ble_eq_true rfl) (fun p e s m args below meth c hC hr hlk hne hK hG ls hl => ?_)
  have hx := hC.1
  have hb := hC.2.1
  have hl : lv_has ls 4 [(0, .ref (sm_a v 0)), (1, .int a0)] := hl
  unfold f_Mill_stretch at hf
  refine lv_aload_n hx hb d_Mill_stretch_0 rfl (lv_at hl 0 rfl) ?_
  refine gf_Mill_19 hC hK hG d_Mill_stretch_1 ?_
  refine gf_Mill_109 hC hK hG d_Mill_stretch_4 ?_
  refine lv_i2l hx hb d_Mill_stretch_7 rfl ?_
  refine lv_iload_n hx hb d_Mill_stretch_8 rfl (lv_at hl 1 rfl) ?_
  refine lv_i2l hx hb d_Mill_stretch_9 rfl ?_
  refine lv_ladd hx hb d_Mill_stretch_10 ?_
  refine lv_topl (fun x11_1 ex11_1 => ?_)
  have hf := sm_of ex11_1 hf
  refine lv_lstore_n hx hb d_Mill_stretch_11 rfl hl (Nat.le_of_ble_eq_true rfl) rfl (fun ls hl => ?_)
  have hl : lv_has ls 4 [(2, .long x11_1), (0, .ref (sm_a v 0)), (1, .int a0)] := hl
  have hl : lv_has ls 4 [(2, .long x11_1), (0, .ref (sm_a v 0))] := lv_sub hl [0, 1] rfl
  refine lv_lload_n hx hb d_Mill_stretch_12 rfl (lv_at hl 0 rfl) ?_
  refine lv_lconst (v := 0) hx hb d_Mill_stretch_13 (by decide) ?_
  refine W.lcmp hx hb d_Mill_stretch_14 ?_
  refine lv_if_lt hx hb d_Mill_stretch_15 rfl (fun h15_2 => ?_) (fun h15_2 => ?_)
  · have hf := sm_t h15_2 hf
    obtain rfl := Option.some.inj hf
    exact sm_throw hfl hC hlk hne hG hl.1 (by decide) (tl_Mill_40 hC) (ti_1 hC) (ta_Mill_42 hC hK) ⟨Nat.le_of_ble_eq_true rfl, Nat.le_of_ble_eq_true rfl, Nat.le_of_ble_eq_true rfl, Nat.le_of_ble_eq_true rfl⟩ d_Mill_stretch_26 d_Mill_stretch_29 d_Mill_stretch_30 d_Mill_stretch_33
  · have hf := sm_f h15_2 hf
    refine lv_lload_n hx hb d_Mill_stretch_18 rfl (lv_at hl 0 rfl) ?_
    refine lv_ldc2 hx hb hC.2.2.2.1 (hC.2.2.2.2 _ (List.mem_cons_of_mem _ aw_576)) d_Mill_stretch_19 ?_
    refine W.lcmp hx hb d_Mill_stretch_22 ?_
    refine lv_if_le hx hb d_Mill_stretch_23 rfl (fun h23_3 => ?_) (fun h23_3 => ?_)
    · have hf := sm_t h23_3 hf
      refine lv_aload_n hx hb d_Mill_stretch_34 rfl (lv_at hl 1 rfl) ?_
      refine gf_Mill_19 hC hK hG d_Mill_stretch_35 ?_
      refine lv_lload_n hx hb d_Mill_stretch_38 rfl (lv_at hl 0 rfl) ?_
      refine lv_l2i hx hb d_Mill_stretch_39 rfl ?_
      obtain ⟨M40_6, hc40_4, hf⟩ := sm_of_b1 hf
      refine ca_Mill_118 hC hK hG (c_Image_resize hc40_4) hl.1 ⟨Nat.le_of_ble_eq_true rfl, Nat.le_of_ble_eq_true rfl⟩ ⟨Nat.zero_le _, Nat.zero_le _⟩ (Nat.le_of_ble_eq_true rfl) d_Mill_stretch_40 (fun H locs hG => ?_)
      refine lv_aload_n hx hb d_Mill_stretch_43 rfl (lv_at hl 1 rfl) ?_
      refine gf_Mill_19 hC hK hG d_Mill_stretch_44 ?_
      refine gf_Mill_109 hC hK hG d_Mill_stretch_47 ?_
      obtain rfl := Option.some.inj hf
      exact sm_iretX hC hr hlk hG d_Mill_stretch_50
    · have hf := sm_f h23_3 hf
      obtain rfl := Option.some.inj hf
      exact sm_throw hfl hC hlk hne hG hl.1 (by decide) (tl_Mill_40 hC) (ti_1 hC) (ta_Mill_42 hC hK) ⟨Nat.le_of_ble_eq_true rfl, Nat.le_of_ble_eq_true rfl, Nat.le_of_ble_eq_true rfl, Nat.le_of_ble_eq_true rfl⟩ d_Mill_stretch_26 d_Mill_stretch_29 d_Mill_stretch_30 d_Mill_stretch_33
theorem ca_Mill_122 {p : Program} {l : Launch} {e : Env} {R : Room} {s : State} {m : MethodId} {args : Array Value} {below : List Frame} {meth : Method} {c : Code} {H : Heap} {locs : List Loc} {cells slots : Nat} {Q : State → Prop} {cc : ByteArray} {nL pc : Nat} {ls : Array Slot} {rest : List Value} {w0 : Cond} {v : sm_V} {M : sm_M} {o : sm_O} {r : Int32} (hC : CallFix p m c cc nL s args (w0 :: sm_AW) R_Mill) (hK : sm_K v s) (hG : sm_G v M o s H locs) (hM : sm_Ri l y_Reader_faultOf w_Reader_faultOf rm_Reader_faultOf v [.ref (sm_a v 62)] M o r) (hsz : ls.size = nL) (hR : rm_Reader_faultOf.frames + 1 ≤ R.frames ∧ 8 + (3 + 11) + rm_Reader_faultOf.locals ≤ R.locals) (hcs : cells + 0 ≤ R.cells ∧ slots + 0 ≤ R.slots) (hW : (rest.map fun v => v.category).sum ≤ 8) (hdg : decode cc pc = .ok (.invokestatic 122, 3))
    (kk : W p l e R s m args below meth c H locs cells slots Q (F0 m (pc + 3) ls (.int r :: rest))) : W p l e R s m args below meth c H locs cells slots Q (F0 m pc ls (.ref (sm_a v 62) :: rest)) :=
  sm_calli0 (va_runS (As := [.ref (sm_a v 62)]) (rest := rest) hC hM (va_cwS 1 hC.2.2.2.2 (sm_good (sm_inT aw_221 aw_222 aw_16 aw_223)) rfl rfl rfl (by decide +kernel) hR) (sm_preS hK hG) rfl rfl hsz rfl (lv_room hW) hdg hcs) kk
theorem ca_Mill_128 {p : Program} {l : Launch} {e : Env} {R : Room} {s : State} {m : MethodId} {args : Array Value} {below : List Frame} {meth : Method} {c : Code} {H : Heap} {locs : List Loc} {cells slots : Nat} {Q : State → Prop} {cc : ByteArray} {nL pc : Nat} {ls : Array Slot} {rest : List Value} {w0 : Cond} {v : sm_V} {M : sm_M} {o : sm_O} {M' : sm_M} (hC : CallFix p m c cc nL s args (w0 :: sm_AW) R_Mill) (hK : sm_K v s) (hG : sm_G v M o s H locs) (hM : sm_Cv l y_Machine_start w_Machine_start rm_Machine_start v [.ref (sm_a v 64), .ref (sm_a v 62)] M o M') (hsz : ls.size = nL) (hR : rm_Machine_start.frames + 1 ≤ R.frames ∧ 8 + (3 + 11) + rm_Machine_start.locals ≤ R.locals) (hcs : cells + 0 ≤ R.cells ∧ slots + 0 ≤ R.slots) (hW : (rest.map fun v => v.category).sum ≤ 8) (hdg : decode cc pc = .ok (.invokevirtual 128, 3))
    (kk : ∀ (H : Heap) (locs : List Loc), sm_G v M' o s H locs → W p l e R s m args below meth c H locs cells slots Q (F0 m (pc + 3) ls (rest))) : W p l e R s m args below meth c H locs cells slots Q (F0 m pc ls (.ref (sm_a v 62) :: .ref (sm_a v 64) :: rest)) :=
  sm_callv (va_runV (C := R_Machine) (As := [.ref (sm_a v 62)]) (rest := rest) hC hM (cwV 1 hC.2.2.2.2 (sm_good (sm_inV aw_250 aw_251 aw_252 aw_6 aw_253)) rfl rfl rfl (by decide +kernel) hR) (sm_preV hK hG (by decide) rfl rfl) rfl rfl hsz rfl (lv_room hW) hdg hcs) hG kk
abbrev w_Mill_read : List Cond := Cond.code y_Mill_read b_Mill_read 2 (some .int) :: sm_AW
abbrev rm_Mill_read : Room := { frames := 5, cells := 0, slots := 0, locals := 108 }
def f_Mill_read (M : sm_M) : Option (Int32 × sm_M) :=
sm_b1 (f_Reader_faultOf M) fun r4_2 =>
(if r4_2 = 0 then
sm_b1 (f_Machine_start M) fun M20_7 =>
(some (r4_2, M20_7))
else
(some (r4_2, M)))
set_option maxHeartbeats 4000000 in
set_option maxRecDepth 100000 in
theorem c_Mill_read {l : Launch} {v : sm_V} {o : sm_O} {M : sm_M} {r : Int32} {M' : sm_M} (hf : f_Mill_read M = some (r, M')) : sm_Ci l y_Mill_read w_Mill_read rm_Mill_read v [.ref (sm_a v 0)] M o r M' := by
  refine sm_met (cc := b_Mill_read) (nL := 2) (ret := some .int) (plainFor_of_name (by decide)) rfl (Nat.le_of_ble_eq_true rfl) (fun p e s m args below meth c hC hr hlk hK hG ls hl => ?_)
  have hx := hC.1
  have hb := hC.2.1
  have hl : lv_has ls 2 [(0, .ref (sm_a v 0))] := hl
  unfold f_Mill_read at hf
  refine lv_aload_n hx hb d_Mill_read_0 rfl (lv_at hl 0 rfl) ?_
  refine gf_Mill_19 hC hK hG d_Mill_read_1 ?_
  obtain ⟨r4_2, hc4_1, hf⟩ := sm_of_b1 hf
  refine ca_Mill_122 hC hK hG (c_Reader_faultOf hc4_1) hl.1 ⟨Nat.le_of_ble_eq_true rfl, Nat.le_of_ble_eq_true rfl⟩ ⟨Nat.zero_le _, Nat.zero_le _⟩ (Nat.le_of_ble_eq_true rfl) d_Mill_read_4 ?_
  refine lv_istore_n hx hb d_Mill_read_7 rfl hl (Nat.le_of_ble_eq_true rfl) rfl (fun ls hl => ?_)
  have hl : lv_has ls 2 [(1, .int r4_2), (0, .ref (sm_a v 0))] := hl
  refine lv_iload_n hx hb d_Mill_read_8 rfl (lv_at hl 0 rfl) ?_
  refine lv_if_ne hx hb d_Mill_read_9 rfl (fun h9_4 => ?_) (fun h9_4 => ?_)
  · have hf := sm_f h9_4 hf
    refine lv_iload_n hx hb d_Mill_read_23 rfl (lv_at hl 0 rfl) ?_
    obtain ⟨rfl, rfl⟩ := Prod.mk.inj (Option.some.inj hf)
    exact sm_iret hC hr hlk hG d_Mill_read_24
  · have hf := sm_t h9_4 hf
    refine lv_aload_n hx hb d_Mill_read_12 rfl (lv_at hl 1 rfl) ?_
    refine gf_Mill_26 hC hK hG d_Mill_read_13 ?_
    refine lv_aload_n hx hb d_Mill_read_16 rfl (lv_at hl 1 rfl) ?_
    refine gf_Mill_19 hC hK hG d_Mill_read_17 ?_
    obtain ⟨M20_7, hc20_5, hf⟩ := sm_of_b1 hf
    refine ca_Mill_128 hC hK hG (c_Machine_start hc20_5) hl.1 ⟨Nat.le_of_ble_eq_true rfl, Nat.le_of_ble_eq_true rfl⟩ ⟨Nat.zero_le _, Nat.zero_le _⟩ (Nat.le_of_ble_eq_true rfl) d_Mill_read_20 (fun H locs hG => ?_)
    refine lv_iload_n hx hb d_Mill_read_23 rfl (lv_at hl 0 rfl) ?_
    obtain ⟨rfl, rfl⟩ := Prod.mk.inj (Option.some.inj hf)
    exact sm_iret hC hr hlk hG d_Mill_read_24
theorem ca_Mill_135 {p : Program} {l : Launch} {e : Env} {R : Room} {s : State} {m : MethodId} {args : Array Value} {below : List Frame} {meth : Method} {c : Code} {H : Heap} {locs : List Loc} {cells slots : Nat} {Q : State → Prop} {cc : ByteArray} {nL pc : Nat} {ls : Array Slot} {rest : List Value} {w0 : Cond} {v : sm_V} {M : sm_M} {o : sm_O} {x0 : Int32} {r : Int32} {M' : sm_M} (hC : CallFix p m c cc nL s args (w0 :: sm_AW) R_Mill) (hK : sm_K v s) (hG : sm_G v M o s H locs) (hM : sm_Ci l y_Machine_advance w_Machine_advance rm_Machine_advance v [.ref (sm_a v 64), .int x0] M o r M') (hsz : ls.size = nL) (hR : rm_Machine_advance.frames + 1 ≤ R.frames ∧ 8 + (4 + 11) + rm_Machine_advance.locals ≤ R.locals) (hcs : cells + 0 ≤ R.cells ∧ slots + 0 ≤ R.slots) (hW : (rest.map fun v => v.category).sum ≤ 8) (hdg : decode cc pc = .ok (.invokevirtual 135, 3))
    (kk : ∀ (H : Heap) (locs : List Loc), sm_G v M' o s H locs → W p l e R s m args below meth c H locs cells slots Q (F0 m (pc + 3) ls (.int r :: rest))) : W p l e R s m args below meth c H locs cells slots Q (F0 m pc ls (.int x0 :: .ref (sm_a v 64) :: rest)) :=
  sm_calli (va_runV (C := R_Machine) (As := [.int x0]) (rest := rest) hC hM (cwV 1 hC.2.2.2.2 (sm_good (sm_inV aw_585 aw_586 aw_587 aw_6 aw_588)) rfl rfl rfl (by decide +kernel) hR) (sm_preV hK hG (by decide) rfl rfl) rfl rfl hsz rfl (lv_room hW) hdg hcs) hG kk
abbrev w_Mill_run : List Cond := Cond.code y_Mill_run b_Mill_run 2 (some .int) :: sm_AW
abbrev rm_Mill_run : Room := { frames := 6, cells := 1, slots := 6, locals := 137 }
def f_Mill_run (M : sm_M) (a0 : Int32) : Option ((Int32 × sm_M) ⊕ Nat) :=
(if a0 < (1 : Int32) then
(some (.inr 1))
else
(if a0 ≤ (500 : Int32) then
(if (M 64 7) = 0 then
(some (.inr 2))
else
sm_b2 (f_Machine_advance M a0) fun r43_5 M43_6 =>
(some (.inl (r43_5, M43_6))))
else
(some (.inr 1))))
set_option maxHeartbeats 4000000 in
set_option maxRecDepth 100000 in
theorem c_Mill_run {l : Launch} {v : sm_V} {o : sm_O} {M : sm_M} {a0 : Int32} {q : (Int32 × sm_M) ⊕ Nat} (hfl : l.flags = pinnedFlags ++ [noTraceFlag]) (hf : f_Mill_run M a0 = some q) : sm_X l y_Mill_run w_Mill_run rm_Mill_run v [.ref (sm_a v 0), .int a0] M o q := by
  refine sm_metX (cc := b_Mill_run) (nL := 2) (ret := some .int) (by decide) rfl (Nat.le_of_ble_eq_true rfl) (fun p e s m args below meth c hC hr hlk hne hK hG ls hl => ?_)
  have hx := hC.1
  have hb := hC.2.1
  have hl : lv_has ls 2 [(0, .ref (sm_a v 0)), (1, .int a0)] := hl
  unfold f_Mill_run at hf
  refine lv_iload_n hx hb d_Mill_run_0 rfl (lv_at hl 1 rfl) ?_
  refine lv_iconst (v := 1) hx hb d_Mill_run_1 (by decide) ?_
  refine lv_icmp_lt hx hb d_Mill_run_2 rfl (fun h2_1 => ?_) (fun h2_1 => ?_)
  · have hf := sm_t h2_1 hf
    obtain rfl := Option.some.inj hf
    exact sm_throw hfl hC hlk hne hG hl.1 (by decide) (tl_Mill_40 hC) (ti_1 hC) (ta_Mill_42 hC hK) ⟨Nat.le_of_ble_eq_true rfl, Nat.le_of_ble_eq_true rfl, Nat.le_of_ble_eq_true rfl, Nat.le_of_ble_eq_true rfl⟩ d_Mill_run_12 d_Mill_run_15 d_Mill_run_16 d_Mill_run_19
  · have hf := sm_f h2_1 hf
    refine lv_iload_n hx hb d_Mill_run_5 rfl (lv_at hl 1 rfl) ?_
    refine lv_sipush (v := 500) hx hb d_Mill_run_6 (by decide) ?_
    refine lv_icmp_le hx hb d_Mill_run_9 rfl (fun h9_2 => ?_) (fun h9_2 => ?_)
    · have hf := sm_t h9_2 hf
      refine lv_aload_n hx hb d_Mill_run_20 rfl (lv_at hl 0 rfl) ?_
      refine gf_Mill_26 hC hK hG d_Mill_run_21 ?_
      refine gf_Mill_132 hC hK hG d_Mill_run_24 ?_
      refine lv_if_ne hx hb d_Mill_run_27 rfl (fun h27_3 => ?_) (fun h27_3 => ?_)
      · have hf := sm_f h27_3 hf
        refine lv_aload_n hx hb d_Mill_run_38 rfl (lv_at hl 0 rfl) ?_
        refine gf_Mill_26 hC hK hG d_Mill_run_39 ?_
        refine lv_iload_n hx hb d_Mill_run_42 rfl (lv_at hl 1 rfl) ?_
        obtain ⟨r43_5, M43_6, hc43_4, hf⟩ := sm_of_b2 hf
        refine ca_Mill_135 hC hK hG (c_Machine_advance hc43_4) hl.1 ⟨Nat.le_of_ble_eq_true rfl, Nat.le_of_ble_eq_true rfl⟩ ⟨Nat.zero_le _, Nat.zero_le _⟩ (Nat.le_of_ble_eq_true rfl) d_Mill_run_43 (fun H locs hG => ?_)
        obtain rfl := Option.some.inj hf
        exact sm_iretX hC hr hlk hG d_Mill_run_46
      · have hf := sm_t h27_3 hf
        obtain rfl := Option.some.inj hf
        exact sm_throw hfl hC hlk hne hG hl.1 (by decide) (tl_Mill_59 hC) (ti_2 hC) (ta_Mill_61 hC hK) ⟨Nat.le_of_ble_eq_true rfl, Nat.le_of_ble_eq_true rfl, Nat.le_of_ble_eq_true rfl, Nat.le_of_ble_eq_true rfl⟩ d_Mill_run_30 d_Mill_run_33 d_Mill_run_34 d_Mill_run_37
    · have hf := sm_f h9_2 hf
      obtain rfl := Option.some.inj hf
      exact sm_throw hfl hC hlk hne hG hl.1 (by decide) (tl_Mill_40 hC) (ti_1 hC) (ta_Mill_42 hC hK) ⟨Nat.le_of_ble_eq_true rfl, Nat.le_of_ble_eq_true rfl, Nat.le_of_ble_eq_true rfl, Nat.le_of_ble_eq_true rfl⟩ d_Mill_run_12 d_Mill_run_15 d_Mill_run_16 d_Mill_run_19
abbrev w_Mill_value : List Cond := Cond.code y_Mill_value b_Mill_value 2 (some .int) :: sm_AW
abbrev rm_Mill_value : Room := { frames := 1, cells := 0, slots := 0, locals := 21 }
def f_Mill_value (M : sm_M) (a0 : Int32) : Option (Int32) :=
sm_b1 (f_Mill_isBelow a0 (16 : Int32)) fun r3_2 =>
(if r3_2 = 0 then
(some (-1 : Int32))
else
sm_gd a0 16 (
(some (M 61 (Int32.toNatClampNeg a0)))))
set_option maxHeartbeats 4000000 in
set_option maxRecDepth 100000 in
theorem c_Mill_value {l : Launch} {v : sm_V} {o : sm_O} {M : sm_M} {a0 : Int32} {r : Int32} (hf : f_Mill_value M a0 = some r) : sm_Ri l y_Mill_value w_Mill_value rm_Mill_value v [.ref (sm_a v 0), .int a0] M o r  := by
  refine sm_met (cc := b_Mill_value) (nL := 2) (ret := some .int) (plainFor_of_name (by decide)) rfl (Nat.le_of_ble_eq_true rfl) (fun p e s m args below meth c hC hr hlk hK hG ls hl => ?_)
  have hx := hC.1
  have hb := hC.2.1
  have hl : lv_has ls 2 [(0, .ref (sm_a v 0)), (1, .int a0)] := hl
  unfold f_Mill_value at hf
  refine lv_iload_n hx hb d_Mill_value_0 rfl (lv_at hl 1 rfl) ?_
  refine lv_bipush (v := 16) hx hb d_Mill_value_1 (by decide) ?_
  obtain ⟨r3_2, hc3_1, hf⟩ := sm_of_b1 hf
  refine ca_Mill_30 hC hK hG (c_Mill_isBelow hc3_1) hl.1 ⟨Nat.le_of_ble_eq_true rfl, Nat.le_of_ble_eq_true rfl⟩ ⟨Nat.zero_le _, Nat.zero_le _⟩ (Nat.le_of_ble_eq_true rfl) d_Mill_value_3 ?_
  refine lv_if_eq hx hb d_Mill_value_6 rfl (fun h6_4 => ?_) (fun h6_4 => ?_)
  · have hf := sm_t h6_4 hf
    refine lv_iconst (v := -1) hx hb d_Mill_value_21 (by decide) ?_
    obtain rfl := Option.some.inj hf
    exact sm_iret0 hC hr hlk d_Mill_value_22
  · have hf := sm_f h6_4 hf
    refine lv_aload_n hx hb d_Mill_value_9 rfl (lv_at hl 0 rfl) ?_
    refine gf_Mill_10 hC hK hG d_Mill_value_10 ?_
    refine gf_Mill_138 hC hK hG d_Mill_value_13 ?_
    refine lv_iload_n hx hb d_Mill_value_16 rfl (lv_at hl 1 rfl) ?_
    obtain ⟨h17_5, hf⟩ := sm_of_gd hf
    refine sm_iald hC hK hG (by decide) rfl h17_5 d_Mill_value_17 ?_
    refine lv_goto hx hb d_Mill_value_18 rfl ?_
    obtain rfl := Option.some.inj hf
    exact sm_iret0 hC hr hlk d_Mill_value_22
abbrev w_Mill_register : List Cond := Cond.code y_Mill_register b_Mill_register 2 (some .int) :: sm_AW
abbrev rm_Mill_register : Room := { frames := 1, cells := 0, slots := 0, locals := 21 }
def f_Mill_register (M : sm_M) (a0 : Int32) : Option (Int32) :=
sm_b1 (f_Mill_isBelow a0 (32 : Int32)) fun r3_2 =>
(if r3_2 = 0 then
(some (0 : Int32))
else
sm_gd a0 32 (
(some (M 66 (Int32.toNatClampNeg a0)))))
set_option maxHeartbeats 4000000 in
set_option maxRecDepth 100000 in
theorem c_Mill_register {l : Launch} {v : sm_V} {o : sm_O} {M : sm_M} {a0 : Int32} {r : Int32} (hf : f_Mill_register M a0 = some r) : sm_Ri l y_Mill_register w_Mill_register rm_Mill_register v [.ref (sm_a v 0), .int a0] M o r  := by
  refine sm_met (cc := b_Mill_register) (nL := 2) (ret := some .int) (plainFor_of_name (by decide)) rfl (Nat.le_of_ble_eq_true rfl) (fun p e s m args below meth c hC hr hlk hK hG ls hl => ?_)
  have hx := hC.1
  have hb := hC.2.1
  have hl : lv_has ls 2 [(0, .ref (sm_a v 0)), (1, .int a0)] := hl
  unfold f_Mill_register at hf
  refine lv_iload_n hx hb d_Mill_register_0 rfl (lv_at hl 1 rfl) ?_
  refine lv_bipush (v := 32) hx hb d_Mill_register_1 (by decide) ?_
  obtain ⟨r3_2, hc3_1, hf⟩ := sm_of_b1 hf
  refine ca_Mill_30 hC hK hG (c_Mill_isBelow hc3_1) hl.1 ⟨Nat.le_of_ble_eq_true rfl, Nat.le_of_ble_eq_true rfl⟩ ⟨Nat.zero_le _, Nat.zero_le _⟩ (Nat.le_of_ble_eq_true rfl) d_Mill_register_3 ?_
  refine lv_if_eq hx hb d_Mill_register_6 rfl (fun h6_4 => ?_) (fun h6_4 => ?_)
  · have hf := sm_t h6_4 hf
    refine lv_iconst (v := 0) hx hb d_Mill_register_21 (by decide) ?_
    obtain rfl := Option.some.inj hf
    exact sm_iret0 hC hr hlk d_Mill_register_22
  · have hf := sm_f h6_4 hf
    refine lv_aload_n hx hb d_Mill_register_9 rfl (lv_at hl 0 rfl) ?_
    refine gf_Mill_26 hC hK hG d_Mill_register_10 ?_
    refine gf_Mill_141 hC hK hG d_Mill_register_13 ?_
    refine lv_iload_n hx hb d_Mill_register_16 rfl (lv_at hl 1 rfl) ?_
    obtain ⟨h17_5, hf⟩ := sm_of_gd hf
    refine sm_iald hC hK hG (by decide) rfl h17_5 d_Mill_register_17 ?_
    refine lv_goto hx hb d_Mill_register_18 rfl ?_
    obtain rfl := Option.some.inj hf
    exact sm_iret0 hC hr hlk d_Mill_register_22
theorem ca_Mill_144 {p : Program} {l : Launch} {e : Env} {R : Room} {s : State} {m : MethodId} {args : Array Value} {below : List Frame} {meth : Method} {c : Code} {H : Heap} {locs : List Loc} {cells slots : Nat} {Q : State → Prop} {cc : ByteArray} {nL pc : Nat} {ls : Array Slot} {rest : List Value} {w0 : Cond} {v : sm_V} {M : sm_M} {o : sm_O} {x0 : Int32} {r : Int32} (hC : CallFix p m c cc nL s args (w0 :: sm_AW) R_Mill) (hK : sm_K v s) (hG : sm_G v M o s H locs) (hM : sm_Ri l y_Machine_indexOf w_Machine_indexOf rm_Machine_indexOf v [.ref (sm_a v 64), .int x0] M o r) (hsz : ls.size = nL) (hR : rm_Machine_indexOf.frames + 1 ≤ R.frames ∧ 8 + (3 + 11) + rm_Machine_indexOf.locals ≤ R.locals) (hcs : cells + 0 ≤ R.cells ∧ slots + 0 ≤ R.slots) (hW : (rest.map fun v => v.category).sum ≤ 8) (hdg : decode cc pc = .ok (.invokevirtual 144, 3))
    (kk : W p l e R s m args below meth c H locs cells slots Q (F0 m (pc + 3) ls (.int r :: rest))) : W p l e R s m args below meth c H locs cells slots Q (F0 m pc ls (.int x0 :: .ref (sm_a v 64) :: rest)) :=
  sm_calli0 (va_runV (C := R_Machine) (As := [.int x0]) (rest := rest) hC hM (cwV 1 hC.2.2.2.2 (sm_good (sm_inV aw_665 aw_627 aw_628 aw_6 aw_629)) rfl rfl rfl (by decide +kernel) hR) (sm_preV hK hG (by decide) rfl rfl) rfl rfl hsz rfl (lv_room hW) hdg hcs) kk
abbrev w_Mill_memory : List Cond := Cond.code y_Mill_memory b_Mill_memory 3 (some .int) :: sm_AW
abbrev rm_Mill_memory : Room := { frames := 6, cells := 1, slots := 6, locals := 90 }
def f_Mill_memory (M : sm_M) (a0 : Int32) : Option ((Int32 × sm_M) ⊕ Nat) :=
sm_b1 (f_Machine_indexOf M a0) fun r5_2 =>
(if r5_2 = (-1 : Int32) then
(some (.inr 3))
else
sm_gd r5_2 241 (
(some (.inl (M 65 (Int32.toNatClampNeg r5_2), M)))))
set_option maxHeartbeats 4000000 in
set_option maxRecDepth 100000 in
theorem c_Mill_memory {l : Launch} {v : sm_V} {o : sm_O} {M : sm_M} {a0 : Int32} {q : (Int32 × sm_M) ⊕ Nat} (hfl : l.flags = pinnedFlags ++ [noTraceFlag]) (hf : f_Mill_memory M a0 = some q) : sm_X l y_Mill_memory w_Mill_memory rm_Mill_memory v [.ref (sm_a v 0), .int a0] M o q := by
  refine sm_metX (cc := b_Mill_memory) (nL := 3) (ret := some .int) (by decide) rfl (Nat.le_of_ble_eq_true rfl) (fun p e s m args below meth c hC hr hlk hne hK hG ls hl => ?_)
  have hx := hC.1
  have hb := hC.2.1
  have hl : lv_has ls 3 [(0, .ref (sm_a v 0)), (1, .int a0)] := hl
  unfold f_Mill_memory at hf
  refine lv_aload_n hx hb d_Mill_memory_0 rfl (lv_at hl 0 rfl) ?_
  refine gf_Mill_26 hC hK hG d_Mill_memory_1 ?_
  refine lv_iload_n hx hb d_Mill_memory_4 rfl (lv_at hl 1 rfl) ?_
  obtain ⟨r5_2, hc5_1, hf⟩ := sm_of_b1 hf
  refine ca_Mill_144 hC hK hG (c_Machine_indexOf hc5_1) hl.1 ⟨Nat.le_of_ble_eq_true rfl, Nat.le_of_ble_eq_true rfl⟩ ⟨Nat.zero_le _, Nat.zero_le _⟩ (Nat.le_of_ble_eq_true rfl) d_Mill_memory_5 ?_
  refine lv_istore_n hx hb d_Mill_memory_8 rfl hl (Nat.le_of_ble_eq_true rfl) rfl (fun ls hl => ?_)
  have hl : lv_has ls 3 [(2, .int r5_2), (0, .ref (sm_a v 0)), (1, .int a0)] := hl
  have hl : lv_has ls 3 [(2, .int r5_2), (0, .ref (sm_a v 0))] := lv_sub hl [0, 1] rfl
  refine lv_iload_n hx hb d_Mill_memory_9 rfl (lv_at hl 0 rfl) ?_
  refine lv_iconst (v := -1) hx hb d_Mill_memory_10 (by decide) ?_
  refine lv_icmp_ne hx hb d_Mill_memory_11 rfl (fun h11_4 => ?_) (fun h11_4 => ?_)
  · have hf := sm_f h11_4 hf
    refine lv_aload_n hx hb d_Mill_memory_22 rfl (lv_at hl 1 rfl) ?_
    refine gf_Mill_26 hC hK hG d_Mill_memory_23 ?_
    refine gf_Mill_150 hC hK hG d_Mill_memory_26 ?_
    refine lv_iload_n hx hb d_Mill_memory_29 rfl (lv_at hl 0 rfl) ?_
    obtain ⟨h30_5, hf⟩ := sm_of_gd hf
    refine sm_iald hC hK hG (by decide) rfl h30_5 d_Mill_memory_30 ?_
    obtain rfl := Option.some.inj hf
    exact sm_iretX hC hr hlk hG d_Mill_memory_31
  · have hf := sm_t h11_4 hf
    obtain rfl := Option.some.inj hf
    exact sm_throw hfl hC hlk hne hG hl.1 (by decide) (tl_Mill_147 hC) (ti_3 hC) (ta_Mill_149 hC hK) ⟨Nat.le_of_ble_eq_true rfl, Nat.le_of_ble_eq_true rfl, Nat.le_of_ble_eq_true rfl, Nat.le_of_ble_eq_true rfl⟩ d_Mill_memory_14 d_Mill_memory_17 d_Mill_memory_18 d_Mill_memory_21
theorem ca_Mill_153 {p : Program} {l : Launch} {e : Env} {R : Room} {s : State} {m : MethodId} {args : Array Value} {below : List Frame} {meth : Method} {c : Code} {H : Heap} {locs : List Loc} {cells slots : Nat} {Q : State → Prop} {cc : ByteArray} {nL pc : Nat} {ls : Array Slot} {rest : List Value} {w0 : Cond} {v : sm_V} {M : sm_M} {o : sm_O} {x0 : Int32} {r : Int32} (hC : CallFix p m c cc nL s args (w0 :: sm_AW) R_Mill) (hK : sm_K v s) (hG : sm_G v M o s H locs) (hM : sm_Ri l y_Machine_lastShown w_Machine_lastShown rm_Machine_lastShown v [.ref (sm_a v 64), .int x0] M o r) (hsz : ls.size = nL) (hR : rm_Machine_lastShown.frames + 1 ≤ R.frames ∧ 8 + (2 + 11) + rm_Machine_lastShown.locals ≤ R.locals) (hcs : cells + 0 ≤ R.cells ∧ slots + 0 ≤ R.slots) (hW : (rest.map fun v => v.category).sum ≤ 8) (hdg : decode cc pc = .ok (.invokevirtual 153, 3))
    (kk : W p l e R s m args below meth c H locs cells slots Q (F0 m (pc + 3) ls (.int r :: rest))) : W p l e R s m args below meth c H locs cells slots Q (F0 m pc ls (.int x0 :: .ref (sm_a v 64) :: rest)) :=
  sm_calli0 (va_runV (C := R_Machine) (As := [.int x0]) (rest := rest) hC hM (cwV 1 hC.2.2.2.2 (sm_good (sm_inV aw_268 aw_269 aw_270 aw_6 aw_271)) rfl rfl rfl (by decide +kernel) hR) (sm_preV hK hG (by decide) rfl rfl) rfl rfl hsz rfl (lv_room hW) hdg hcs) kk
abbrev w_Mill_shown : List Cond := Cond.code y_Mill_shown b_Mill_shown 2 (some .int) :: sm_AW
abbrev rm_Mill_shown : Room := { frames := 2, cells := 0, slots := 0, locals := 42 }
def f_Mill_shown (M : sm_M) (a0 : Int32) : Option (Int32) :=
sm_b1 (f_Machine_lastShown M a0) fun r5_2 =>
(some r5_2)
set_option maxHeartbeats 4000000 in
set_option maxRecDepth 100000 in
theorem c_Mill_shown {l : Launch} {v : sm_V} {o : sm_O} {M : sm_M} {a0 : Int32} {r : Int32} (hf : f_Mill_shown M a0 = some r) : sm_Ri l y_Mill_shown w_Mill_shown rm_Mill_shown v [.ref (sm_a v 0), .int a0] M o r  := by
  refine sm_met (cc := b_Mill_shown) (nL := 2) (ret := some .int) (plainFor_of_name (by decide)) rfl (Nat.le_of_ble_eq_true rfl) (fun p e s m args below meth c hC hr hlk hK hG ls hl => ?_)
  have hx := hC.1
  have hb := hC.2.1
  have hl : lv_has ls 2 [(0, .ref (sm_a v 0)), (1, .int a0)] := hl
  unfold f_Mill_shown at hf
  refine lv_aload_n hx hb d_Mill_shown_0 rfl (lv_at hl 0 rfl) ?_
  refine gf_Mill_26 hC hK hG d_Mill_shown_1 ?_
  refine lv_iload_n hx hb d_Mill_shown_4 rfl (lv_at hl 1 rfl) ?_
  obtain ⟨r5_2, hc5_1, hf⟩ := sm_of_b1 hf
  refine ca_Mill_153 hC hK hG (c_Machine_lastShown hc5_1) hl.1 ⟨Nat.le_of_ble_eq_true rfl, Nat.le_of_ble_eq_true rfl⟩ ⟨Nat.zero_le _, Nat.zero_le _⟩ (Nat.le_of_ble_eq_true rfl) d_Mill_shown_5 ?_
  obtain rfl := Option.some.inj hf
  exact sm_iret0 hC hr hlk d_Mill_shown_8
abbrev w_Mill_about : List Cond := Cond.code y_Mill_about b_Mill_about 2 (some .int) :: sm_AW
abbrev rm_Mill_about : Room := { frames := 0, cells := 0, slots := 0, locals := 0 }
def f_Mill_about (M : sm_M) (a0 : Int32) : Option (Int32) :=
(if a0 = 0 then
(some (M 62 1))
else
(if a0 = 1 then
(some (M 64 7))
else
(if a0 = 2 then
(some (M 64 8))
else
(if a0 = 3 then
(some (M 64 9))
else
(if a0 = 4 then
(some (M 64 10))
else
(some (-1 : Int32)))))))
set_option maxHeartbeats 4000000 in
set_option maxRecDepth 100000 in
theorem c_Mill_about {l : Launch} {v : sm_V} {o : sm_O} {M : sm_M} {a0 : Int32} {r : Int32} (hf : f_Mill_about M a0 = some r) : sm_Ri l y_Mill_about w_Mill_about rm_Mill_about v [.ref (sm_a v 0), .int a0] M o r  := by
  refine sm_met (cc := b_Mill_about) (nL := 2) (ret := some .int) (plainFor_of_name (by decide)) rfl (Nat.le_of_ble_eq_true rfl) (fun p e s m args below meth c hC hr hlk hK hG ls hl => ?_)
  have hx := hC.1
  have hb := hC.2.1
  have hl : lv_has ls 2 [(0, .ref (sm_a v 0)), (1, .int a0)] := hl
  unfold f_Mill_about at hf
  refine lv_iload_n hx hb d_Mill_about_0 rfl (lv_at hl 1 rfl) ?_
  by_cases h1_1 : a0 = 0
  · have hf := sm_t h1_1 hf
    refine lv_tableIn (tgt := 36) hx hb d_Mill_about_1 (by rw [h1_1]; decide) (by rw [h1_1]; decide) (by rw [h1_1]; rfl) rfl ?_
    refine lv_aload_n hx hb d_Mill_about_36 rfl (lv_at hl 0 rfl) ?_
    refine gf_Mill_19 hC hK hG d_Mill_about_37 ?_
    refine gf_Mill_109 hC hK hG d_Mill_about_40 ?_
    obtain rfl := Option.some.inj hf
    exact sm_iret0 hC hr hlk d_Mill_about_43
  have hf := sm_f h1_1 hf
  by_cases h1_2 : a0 = 1
  · have hf := sm_t h1_2 hf
    refine lv_tableIn (tgt := 44) hx hb d_Mill_about_1 (by rw [h1_2]; decide) (by rw [h1_2]; decide) (by rw [h1_2]; rfl) rfl ?_
    refine lv_aload_n hx hb d_Mill_about_44 rfl (lv_at hl 0 rfl) ?_
    refine gf_Mill_26 hC hK hG d_Mill_about_45 ?_
    refine gf_Mill_132 hC hK hG d_Mill_about_48 ?_
    obtain rfl := Option.some.inj hf
    exact sm_iret0 hC hr hlk d_Mill_about_51
  have hf := sm_f h1_2 hf
  by_cases h1_3 : a0 = 2
  · have hf := sm_t h1_3 hf
    refine lv_tableIn (tgt := 52) hx hb d_Mill_about_1 (by rw [h1_3]; decide) (by rw [h1_3]; decide) (by rw [h1_3]; rfl) rfl ?_
    refine lv_aload_n hx hb d_Mill_about_52 rfl (lv_at hl 0 rfl) ?_
    refine gf_Mill_26 hC hK hG d_Mill_about_53 ?_
    refine gf_Mill_156 hC hK hG d_Mill_about_56 ?_
    obtain rfl := Option.some.inj hf
    exact sm_iret0 hC hr hlk d_Mill_about_59
  have hf := sm_f h1_3 hf
  by_cases h1_4 : a0 = 3
  · have hf := sm_t h1_4 hf
    refine lv_tableIn (tgt := 60) hx hb d_Mill_about_1 (by rw [h1_4]; decide) (by rw [h1_4]; decide) (by rw [h1_4]; rfl) rfl ?_
    refine lv_aload_n hx hb d_Mill_about_60 rfl (lv_at hl 0 rfl) ?_
    refine gf_Mill_26 hC hK hG d_Mill_about_61 ?_
    refine gf_Mill_159 hC hK hG d_Mill_about_64 ?_
    obtain rfl := Option.some.inj hf
    exact sm_iret0 hC hr hlk d_Mill_about_67
  have hf := sm_f h1_4 hf
  by_cases h1_5 : a0 = 4
  · have hf := sm_t h1_5 hf
    refine lv_tableIn (tgt := 68) hx hb d_Mill_about_1 (by rw [h1_5]; decide) (by rw [h1_5]; decide) (by rw [h1_5]; rfl) rfl ?_
    refine lv_aload_n hx hb d_Mill_about_68 rfl (lv_at hl 0 rfl) ?_
    refine gf_Mill_26 hC hK hG d_Mill_about_69 ?_
    refine gf_Mill_162 hC hK hG d_Mill_about_72 ?_
    obtain rfl := Option.some.inj hf
    exact sm_iret0 hC hr hlk d_Mill_about_75
  have hf := sm_f h1_5 hf
  refine lv_tableOut (tgt := 76) hx hb d_Mill_about_1 (by have := lv_neT (a := 0) h1_1 rfl; have := lv_neT (a := 1) h1_2 rfl; have := lv_neT (a := 2) h1_3 rfl; have := lv_neT (a := 3) h1_4 rfl; have := lv_neT (a := 4) h1_5 rfl; omega) rfl ?_
  refine lv_iconst (v := -1) hx hb d_Mill_about_76 (by decide) ?_
  obtain rfl := Option.some.inj hf
  exact sm_iret0 hC hr hlk d_Mill_about_77
abbrev w_Mill_object : List Cond := Cond.code y_Mill_object b_Mill_object 4 (some .int) :: sm_AW
abbrev rm_Mill_object : Room := { frames := 1, cells := 0, slots := 0, locals := 21 }
def f_Mill_object (M : sm_M) (a0 : Int32) (a1 : Int32) : Option (Int32) :=
sm_b1 (f_Mill_isBelow a0 (4 : Int32)) fun r2_2 =>
(if r2_2 = 0 then
(some (-1 : Int32))
else
sm_gd a0 4 (
sm_nm (3 + 14 * Int32.toNatClampNeg a0) fun k18_6 =>
(if a1 = 0 then
(some (M (k18_6 + 1) 1))
else
(if a1 = 1 then
(some (M (k18_6 + 3) 1))
else
(if a1 = 2 then
(some (M k18_6 6))
else
(if a1 = 3 then
(some (M k18_6 12))
else
(some (-1 : Int32))))))))
set_option maxHeartbeats 4000000 in
set_option maxRecDepth 100000 in
theorem c_Mill_object {l : Launch} {v : sm_V} {o : sm_O} {M : sm_M} {a0 : Int32} {a1 : Int32} {r : Int32} (hf : f_Mill_object M a0 a1 = some r) : sm_Ri l y_Mill_object w_Mill_object rm_Mill_object v [.ref (sm_a v 0), .int a0, .int a1] M o r  := by
  refine sm_met (cc := b_Mill_object) (nL := 4) (ret := some .int) (plainFor_of_name (by decide)) rfl (Nat.le_of_ble_eq_true rfl) (fun p e s m args below meth c hC hr hlk hK hG ls hl => ?_)
  have hx := hC.1
  have hb := hC.2.1
  have hl : lv_has ls 4 [(0, .ref (sm_a v 0)), (1, .int a0), (2, .int a1)] := hl
  unfold f_Mill_object at hf
  refine lv_iload_n hx hb d_Mill_object_0 rfl (lv_at hl 1 rfl) ?_
  refine lv_iconst (v := 4) hx hb d_Mill_object_1 (by decide) ?_
  obtain ⟨r2_2, hc2_1, hf⟩ := sm_of_b1 hf
  refine ca_Mill_30 hC hK hG (c_Mill_isBelow hc2_1) hl.1 ⟨Nat.le_of_ble_eq_true rfl, Nat.le_of_ble_eq_true rfl⟩ ⟨Nat.zero_le _, Nat.zero_le _⟩ (Nat.le_of_ble_eq_true rfl) d_Mill_object_2 ?_
  refine lv_if_ne hx hb d_Mill_object_5 rfl (fun h5_4 => ?_) (fun h5_4 => ?_)
  · have hf := sm_f h5_4 hf
    refine lv_aload_n hx hb d_Mill_object_10 rfl (lv_at hl 0 rfl) ?_
    refine gf_Mill_10 hC hK hG d_Mill_object_11 ?_
    refine gf_Mill_43 hC hK hG d_Mill_object_14 ?_
    refine lv_iload_n hx hb d_Mill_object_17 rfl (lv_at hl 1 rfl) ?_
    obtain ⟨h18_5, hf⟩ := sm_of_gd hf
    refine sm_aald hC hK hG h18_5 d_Mill_object_18 (fun k18_6 ek18_6 hk18_6 => ?_)
    have hf := sm_of ek18_6 hf
    refine lv_astore_n hx hb d_Mill_object_19 rfl hl (Nat.le_of_ble_eq_true rfl) rfl (fun ls hl => ?_)
    have hl : lv_has ls 4 [(3, .ref (sm_a v k18_6)), (0, .ref (sm_a v 0)), (1, .int a0), (2, .int a1)] := hl
    have hl : lv_has ls 4 [(3, .ref (sm_a v k18_6)), (2, .int a1)] := lv_sub hl [0, 3] rfl
    refine lv_iload_n hx hb d_Mill_object_20 rfl (lv_at hl 1 rfl) ?_
    by_cases h21_7 : a1 = 0
    · have hf := sm_t h21_7 hf
      refine lv_tableIn (tgt := 52) hx hb d_Mill_object_21 (by rw [h21_7]; decide) (by rw [h21_7]; decide) (by rw [h21_7]; rfl) rfl ?_
      refine lv_aload_n hx hb d_Mill_object_52 rfl (lv_at hl 0 rfl) ?_
      refine gf_Mill_47 hC hK hG hk18_6 d_Mill_object_53 ?_
      refine gf_Mill_81 hC hK hG (sm_ps1 hk18_6) d_Mill_object_56 ?_
      obtain rfl := Option.some.inj hf
      exact sm_iret0 hC hr hlk d_Mill_object_59
    have hf := sm_f h21_7 hf
    by_cases h21_8 : a1 = 1
    · have hf := sm_t h21_8 hf
      refine lv_tableIn (tgt := 60) hx hb d_Mill_object_21 (by rw [h21_8]; decide) (by rw [h21_8]; decide) (by rw [h21_8]; rfl) rfl ?_
      refine lv_aload_n hx hb d_Mill_object_60 rfl (lv_at hl 0 rfl) ?_
      refine gf_Mill_70 hC hK hG hk18_6 d_Mill_object_61 ?_
      refine gf_Mill_81 hC hK hG (sm_ps3 hk18_6) d_Mill_object_64 ?_
      obtain rfl := Option.some.inj hf
      exact sm_iret0 hC hr hlk d_Mill_object_67
    have hf := sm_f h21_8 hf
    by_cases h21_9 : a1 = 2
    · have hf := sm_t h21_9 hf
      refine lv_tableIn (tgt := 68) hx hb d_Mill_object_21 (by rw [h21_9]; decide) (by rw [h21_9]; decide) (by rw [h21_9]; rfl) rfl ?_
      refine lv_aload_n hx hb d_Mill_object_68 rfl (lv_at hl 0 rfl) ?_
      refine gf_Mill_85 hC hK hG hk18_6 d_Mill_object_69 ?_
      obtain rfl := Option.some.inj hf
      exact sm_iret0 hC hr hlk d_Mill_object_72
    have hf := sm_f h21_9 hf
    by_cases h21_10 : a1 = 3
    · have hf := sm_t h21_10 hf
      refine lv_tableIn (tgt := 73) hx hb d_Mill_object_21 (by rw [h21_10]; decide) (by rw [h21_10]; decide) (by rw [h21_10]; rfl) rfl ?_
      refine lv_aload_n hx hb d_Mill_object_73 rfl (lv_at hl 0 rfl) ?_
      refine gf_Mill_94 hC hK hG hk18_6 d_Mill_object_74 ?_
      obtain rfl := Option.some.inj hf
      exact sm_iret0 hC hr hlk d_Mill_object_77
    have hf := sm_f h21_10 hf
    refine lv_tableOut (tgt := 78) hx hb d_Mill_object_21 (by have := lv_neT (a := 0) h21_7 rfl; have := lv_neT (a := 1) h21_8 rfl; have := lv_neT (a := 2) h21_9 rfl; have := lv_neT (a := 3) h21_10 rfl; omega) rfl ?_
    refine lv_iconst (v := -1) hx hb d_Mill_object_78 (by decide) ?_
    obtain rfl := Option.some.inj hf
    exact sm_iret0 hC hr hlk d_Mill_object_79
  · have hf := sm_t h5_4 hf
    refine lv_iconst (v := -1) hx hb d_Mill_object_8 (by decide) ?_
    obtain rfl := Option.some.inj hf
    exact sm_iret0 hC hr hlk d_Mill_object_9
