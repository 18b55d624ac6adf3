theorem ca_Linker_75 {p : Program} {l : Launch} {e : Env} {R : Room} {s : State} {m : MethodId} {args : Array Value} {below : List Frame} {meth : Method} {c : Code} {H : Heap} {locs : List Loc} {cells slots : Nat} {Q : State → Prop} {cc : ByteArray} {nL pc : Nat} {ls : Array Slot} {rest : List Value} {w0 : Cond} {v : sm_V} {M : sm_M} {o : sm_O} {x0 : Int32} {r : Nat} (hC : CallFix p m c cc nL s args (w0 :: sm_AW) R_Linker) (hK : sm_K v s) (hG : sm_G v M o s H locs) {k : Nat} (hk : sm_isP k) (hM : sm_Rr l y_Part_sectionOf w_Part_sectionOf rm_Part_sectionOf v [.ref (sm_a v k), .int x0] M o r) (hsz : ls.size = nL) (hR : rm_Part_sectionOf.frames + 1 ≤ R.frames ∧ 8 + (2 + 11) + rm_Part_sectionOf.locals ≤ R.locals) (hcs : cells + 0 ≤ R.cells ∧ slots + 0 ≤ R.slots) (hW : (rest.map fun v => v.category).sum ≤ 8) (hdg : decode cc pc = .ok (.invokevirtual 75, 3))
    (kk : W p l e R s m args below meth c H locs cells slots Q (F0 m (pc + 3) ls (.ref (sm_a v r) :: rest))) : W p l e R s m args below meth c H locs cells slots Q (F0 m pc ls (.int x0 :: .ref (sm_a v k) :: rest)) :=
  sm_callr0 (va_runV (C := R_Part) (As := [.int x0]) (rest := rest) hC hM (cwV 1 hC.2.2.2.2 (sm_good (sm_inV aw_465 aw_416 aw_417 aw_3 aw_418)) rfl rfl rfl (by decide +kernel) hR) (sm_preV hK hG (sm_p hk).1 (sm_p hk).2 rfl) rfl rfl hsz rfl (lv_room hW) hdg hcs) kk
abbrev w_Linker_layOutSections : List Cond := Cond.code y_Linker_layOutSections b_Linker_layOutSections 5 (some .int) :: sm_AW
abbrev rm_Linker_layOutSections : Room := { frames := 1, cells := 0, slots := 0, locals := 21 }
def g_Linker_layOutSections_5 (w1 : Int32) (rec5 : sm_M → Int32 → Int32 → Option (Int32 × sm_M)) (M : sm_M) (w4 : Int32) (w3 : Int32) : Option (Int32 × sm_M) :=
(if (4 : Int32) ≤ w4 then
(some (w3, M))
else
sm_gd ((w1 * (4 : Int32)) + w4) 8 (
sm_nm (sm_up M 59 (Int32.toNatClampNeg ((w1 * (4 : Int32)) + w4)) w3) fun M22_3 =>
sm_gd w4 4 (
sm_nm (3 + 14 * Int32.toNatClampNeg w4) fun k31_5 =>
sm_b1 (f_Part_sectionOf M22_3 k31_5 w1) fun r33_7 =>
sm_nm (w3 + ((4 : Int32) * (M22_3 r33_7 1))) fun x41_9 =>
rec5 M22_3 (w4 + (1 : Int32)) x41_9)))
def f_Linker_layOutSections (M : sm_M) (a0 : Int32) (a1 : Int32) : Option (Int32 × sm_M) :=
sm_lp3 (g_Linker_layOutSections_5 a0) 1100 M (0 : Int32) a1
set_option maxHeartbeats 4000000 in
set_option maxRecDepth 100000 in
theorem lw_Linker_layOutSections_5 {p : Program} {l : Launch} {e : Env} {s : State} {m : MethodId} {args : Array Value} {below : List Frame} {meth : Method} {c : Code} {v : sm_V} {o : sm_O} {r : Int32} {M' : sm_M} (hC : CallFix p m c b_Linker_layOutSections 5 s args w_Linker_layOutSections R_Linker) (hr : meth.sig.returnType = some .int) (hlk : meth.locks = false) (hK : sm_K v s) (w1 : Int32) :
    ∀ (n : Nat) (M : sm_M) (w4 : Int32) (w3 : Int32) (H : Heap) (locs : List Loc) (ls : Array Slot), sm_G v M o s H locs → lv_has ls 5 [(4, .int w4), (3, .int w3), (0, .ref (sm_a v 1)), (1, .int w1)] → sm_lp3 (g_Linker_layOutSections_5 w1) n M w4 w3 = some (r, M') → W p l e rm_Linker_layOutSections s m args below meth c H locs 0 0 (MQ below (sm_Qi v M' o r) args s 0 0 (sm_A v)) (F0 m 5 ls []) := by
  have hx := hC.1
  have hb := hC.2.1
  intro n
  induction n with
  | zero =>
    intro M w4 w3 H locs ls hG hl hf
    cases hf
  | succ n ih =>
    intro M w4 w3 H locs ls hG hl hf
    have hf : g_Linker_layOutSections_5 w1 (sm_lp3 (g_Linker_layOutSections_5 w1) n) M w4 w3 = some (r, M') := hf
    unfold g_Linker_layOutSections_5 at hf
    refine lv_iload hx hb d_Linker_layOutSections_5 (lv_at hl 0 rfl) ?_
    refine lv_iconst (v := 4) hx hb d_Linker_layOutSections_7 (by decide) ?_
    refine lv_icmp_ge hx hb d_Linker_layOutSections_8 rfl (fun h8_1 => ?_) (fun h8_1 => ?_)
    · have hf := sm_t h8_1 hf
      refine lv_iload_n hx hb d_Linker_layOutSections_48 rfl (lv_at hl 1 rfl) ?_
      obtain ⟨rfl, rfl⟩ := Prod.mk.inj (Option.some.inj hf)
      exact sm_iret hC hr hlk hG d_Linker_layOutSections_49
    · have hf := sm_f h8_1 hf
      refine lv_aload_n hx hb d_Linker_layOutSections_11 rfl (lv_at hl 2 rfl) ?_
      refine gf_Linker_18 hC hK hG d_Linker_layOutSections_12 ?_
      refine lv_iload_n hx hb d_Linker_layOutSections_15 rfl (lv_at hl 3 rfl) ?_
      refine lv_iconst (v := 4) hx hb d_Linker_layOutSections_16 (by decide) ?_
      refine lv_imul hx hb d_Linker_layOutSections_17 ?_
      refine lv_iload hx hb d_Linker_layOutSections_18 (lv_at hl 0 rfl) ?_
      refine lv_iadd hx hb d_Linker_layOutSections_20 ?_
      refine lv_iload_n hx hb d_Linker_layOutSections_21 rfl (lv_at hl 1 rfl) ?_
      obtain ⟨h22_2, hf⟩ := sm_of_gd hf
      refine sm_iast hC hK hG (by decide) rfl h22_2 d_Linker_layOutSections_22 (fun M22_3 H locs eM22_3 hG => ?_)
      have hf := sm_of eM22_3 hf
      refine lv_iload_n hx hb d_Linker_layOutSections_23 rfl (lv_at hl 1 rfl) ?_
      refine lv_iconst (v := 4) hx hb d_Linker_layOutSections_24 (by decide) ?_
      refine lv_aload_n hx hb d_Linker_layOutSections_25 rfl (lv_at hl 2 rfl) ?_
      refine gf_Linker_11 hC hK hG d_Linker_layOutSections_26 ?_
      refine lv_iload hx hb d_Linker_layOutSections_29 (lv_at hl 0 rfl) ?_
      obtain ⟨h31_4, hf⟩ := sm_of_gd hf
      refine sm_aald hC hK hG h31_4 d_Linker_layOutSections_31 (fun k31_5 ek31_5 hk31_5 => ?_)
      have hf := sm_of ek31_5 hf
      refine lv_iload_n hx hb d_Linker_layOutSections_32 rfl (lv_at hl 3 rfl) ?_
      obtain ⟨r33_7, hc33_6, hf⟩ := sm_of_b1 hf
      refine ca_Linker_75 hC hK hG hk31_5 (c_Part_sectionOf hk31_5 hc33_6) hl.1 ⟨Nat.le_of_ble_eq_true rfl, Nat.le_of_ble_eq_true rfl⟩ ⟨Nat.zero_le _, Nat.zero_le _⟩ (Nat.le_of_ble_eq_true rfl) d_Linker_layOutSections_33 ?_
      have hr33_7 := sm_secOf hk31_5 hc33_6
      refine gf_Linker_79 hC hK hG hr33_7 d_Linker_layOutSections_36 ?_
      refine lv_imul hx hb d_Linker_layOutSections_39 ?_
      refine lv_iadd hx hb d_Linker_layOutSections_40 ?_
      refine lv_topi (fun x41_9 ex41_9 => ?_)
      have hf := sm_of ex41_9 hf
      refine lv_istore_n hx hb d_Linker_layOutSections_41 rfl hl (Nat.le_of_ble_eq_true rfl) rfl (fun ls hl => ?_)
      have hl : lv_has ls 5 [(3, .int x41_9), (4, .int w4), (0, .ref (sm_a v 1)), (1, .int w1)] := hl
      refine lv_iinc (v := w4 + (1 : Int32)) (k := 1) hx hb d_Linker_layOutSections_42 hl rfl rfl (Nat.le_of_ble_eq_true rfl) rfl (fun ls hl => ?_)
      have hl : lv_has ls 5 [(4, .int (w4 + (1 : Int32))), (3, .int x41_9), (0, .ref (sm_a v 1)), (1, .int w1)] := hl
      refine lv_goto hx hb d_Linker_layOutSections_45 rfl ?_
      exact ih _ _ _ _ _ ls hG hl hf
set_option maxHeartbeats 4000000 in
set_option maxRecDepth 100000 in
theorem c_Linker_layOutSections {l : Launch} {v : sm_V} {o : sm_O} {M : sm_M} {a0 : Int32} {a1 : Int32} {r : Int32} {M' : sm_M} (hf : f_Linker_layOutSections M a0 a1 = some (r, M')) : sm_Ci l y_Linker_layOutSections w_Linker_layOutSections rm_Linker_layOutSections v [.ref (sm_a v 1), .int a0, .int a1] M o r M' := by
  refine sm_met (cc := b_Linker_layOutSections) (nL := 5) (ret := some .int) (plainFor_of_name (by decide)) rfl (Nat.le_of_ble_eq_true rfl) (fun p e s m args below meth c hC hr hlk hK hG ls hl => ?_)
  have hx := hC.1
  have hb := hC.2.1
  have hl : lv_has ls 5 [(0, .ref (sm_a v 1)), (1, .int a0), (2, .int a1)] := hl
  unfold f_Linker_layOutSections at hf
  refine lv_iload_n hx hb d_Linker_layOutSections_0 rfl (lv_at hl 2 rfl) ?_
  refine lv_istore_n hx hb d_Linker_layOutSections_1 rfl hl (Nat.le_of_ble_eq_true rfl) rfl (fun ls hl => ?_)
  have hl : lv_has ls 5 [(3, .int a1), (0, .ref (sm_a v 1)), (1, .int a0), (2, .int a1)] := hl
  have hl : lv_has ls 5 [(3, .int a1), (0, .ref (sm_a v 1)), (1, .int a0)] := lv_sub hl [0, 1, 2] rfl
  refine lv_iconst (v := 0) hx hb d_Linker_layOutSections_2 (by decide) ?_
  refine lv_istore hx hb d_Linker_layOutSections_3 hl (Nat.le_of_ble_eq_true rfl) rfl (fun ls hl => ?_)
  have hl : lv_has ls 5 [(4, .int (0 : Int32)), (3, .int a1), (0, .ref (sm_a v 1)), (1, .int a0)] := hl
  exact lw_Linker_layOutSections_5 hC hr hlk hK a0 1100 _ _ _ _ _ ls hG hl hf
theorem ca_Linker_71 {p : Program} {l : Launch} {e : Env} {R : Room} {s : State} {m : MethodId} {args : Array Value} {below : List Frame} {meth : Method} {c : Code} {H : Heap} {locs : List Loc} {cells slots : Nat} {Q : State → Prop} {cc : ByteArray} {nL pc : Nat} {ls : Array Slot} {rest : List Value} {w0 : Cond} {v : sm_V} {M : sm_M} {o : sm_O} {x0 : Int32} {x1 : Int32} {r : Int32} {M' : sm_M} (hC : CallFix p m c cc nL s args (w0 :: sm_AW) R_Linker) (hK : sm_K v s) (hG : sm_G v M o s H locs) (hM : sm_Ci l y_Linker_layOutSections w_Linker_layOutSections rm_Linker_layOutSections v [.ref (sm_a v 1), .int x0, .int x1] M o r M') (hsz : ls.size = nL) (hR : rm_Linker_layOutSections.frames + 1 ≤ R.frames ∧ 8 + (5 + 11) + rm_Linker_layOutSections.locals ≤ R.locals) (hcs : cells + 0 ≤ R.cells ∧ slots + 0 ≤ R.slots) (hW : (rest.map fun v => v.category).sum ≤ 8) (hdg : decode cc pc = .ok (.invokevirtual 71, 3))
    (kk : ∀ (H : Heap) (locs : List Loc), sm_G v M' o s H locs → W p l e R s m args below meth c H locs cells slots Q (F0 m (pc + 3) ls (.int r :: rest))) : W p l e R s m args below meth c H locs cells slots Q (F0 m pc ls (.int x1 :: .int x0 :: .ref (sm_a v 1) :: rest)) :=
  sm_calli (va_runV (C := R_Linker) (As := [.int x0, .int x1]) (rest := rest) hC hM (cwV 2 hC.2.2.2.2 (sm_good (sm_inV aw_461 aw_463 as_2 aw_2 aw_464)) rfl rfl rfl (by decide +kernel) hR) (sm_preV hK hG (by decide) rfl rfl) rfl rfl hsz rfl (lv_room hW) hdg hcs) hG kk
abbrev w_Linker_layOut : List Cond := Cond.code y_Linker_layOut b_Linker_layOut 2 (none) :: sm_AW
abbrev rm_Linker_layOut : Room := { frames := 2, cells := 0, slots := 0, locals := 45 }
def f_Linker_layOut (M : sm_M) (a0 : Int32) : Option (sm_M) :=
sm_nm (sm_up M 1 4 a0) fun M2_1 =>
sm_b2 (f_Linker_layOutSections M2_1 (0 : Int32) (M2_1 1 4)) fun r12_3 M12_4 =>
sm_nm (sm_up M12_4 1 5 r12_3) fun M15_5 =>
sm_nm (sm_up M15_5 1 6 (((((M15_5 1 5) + (64 : Int32)) - (1 : Int32)) / (64 : Int32)) * (64 : Int32))) fun M34_6 =>
sm_b2 (f_Linker_layOutSections M34_6 (1 : Int32) (M34_6 1 6)) fun r44_8 M44_9 =>
sm_nm (sm_up M44_9 1 7 r44_8) fun M47_10 =>
(some M47_10)
set_option maxHeartbeats 4000000 in
set_option maxRecDepth 100000 in
theorem c_Linker_layOut {l : Launch} {v : sm_V} {o : sm_O} {M : sm_M} {a0 : Int32} {M' : sm_M} (hf : f_Linker_layOut M a0 = some M') : sm_Cv l y_Linker_layOut w_Linker_layOut rm_Linker_layOut v [.ref (sm_a v 1), .int a0] M o M' := by
  refine sm_met (cc := b_Linker_layOut) (nL := 2) (ret := none) (plainFor_of_name (by decide)) rfl (Nat.le_of_ble_eq_true rfl) (fun p e s m args below meth c hC hr hlk hK hG ls hl => ?_)
  have hx := hC.1
  have hb := hC.2.1
  have hl : lv_has ls 2 [(0, .ref (sm_a v 1)), (1, .int a0)] := hl
  unfold f_Linker_layOut at hf
  refine lv_aload_n hx hb d_Linker_layOut_0 rfl (lv_at hl 0 rfl) ?_
  refine lv_iload_n hx hb d_Linker_layOut_1 rfl (lv_at hl 1 rfl) ?_
  refine pf_Linker_43 hC hK hG d_Linker_layOut_2 (fun M2_1 H locs eM2_1 hG => ?_)
  have hf := sm_of eM2_1 hf
  refine lv_aload_n hx hb d_Linker_layOut_5 rfl (lv_at hl 0 rfl) ?_
  refine lv_aload_n hx hb d_Linker_layOut_6 rfl (lv_at hl 0 rfl) ?_
  refine lv_iconst (v := 0) hx hb d_Linker_layOut_7 (by decide) ?_
  refine lv_aload_n hx hb d_Linker_layOut_8 rfl (lv_at hl 0 rfl) ?_
  refine gf_Linker_43 hC hK hG d_Linker_layOut_9 ?_
  obtain ⟨r12_3, M12_4, hc12_2, hf⟩ := sm_of_b2 hf
  refine ca_Linker_71 hC hK hG (c_Linker_layOutSections hc12_2) hl.1 ⟨Nat.le_of_ble_eq_true rfl, Nat.le_of_ble_eq_true rfl⟩ ⟨Nat.zero_le _, Nat.zero_le _⟩ (Nat.le_of_ble_eq_true rfl) d_Linker_layOut_12 (fun H locs hG => ?_)
  refine pf_Linker_39 hC hK hG d_Linker_layOut_15 (fun M15_5 H locs eM15_5 hG => ?_)
  have hf := sm_of eM15_5 hf
  refine lv_aload_n hx hb d_Linker_layOut_18 rfl (lv_at hl 0 rfl) ?_
  refine lv_aload_n hx hb d_Linker_layOut_19 rfl (lv_at hl 0 rfl) ?_
  refine gf_Linker_39 hC hK hG d_Linker_layOut_20 ?_
  refine lv_bipush (v := 64) hx hb d_Linker_layOut_23 (by decide) ?_
  refine lv_iadd hx hb d_Linker_layOut_25 ?_
  refine lv_iconst (v := 1) hx hb d_Linker_layOut_26 (by decide) ?_
  refine lv_isub hx hb d_Linker_layOut_27 ?_
  refine lv_bipush (v := 64) hx hb d_Linker_layOut_28 (by decide) ?_
  refine lv_idiv hx hb d_Linker_layOut_30 (by decide) ?_
  refine lv_bipush (v := 64) hx hb d_Linker_layOut_31 (by decide) ?_
  refine lv_imul hx hb d_Linker_layOut_33 ?_
  refine pf_Linker_49 hC hK hG d_Linker_layOut_34 (fun M34_6 H locs eM34_6 hG => ?_)
  have hf := sm_of eM34_6 hf
  refine lv_aload_n hx hb d_Linker_layOut_37 rfl (lv_at hl 0 rfl) ?_
  refine lv_aload_n hx hb d_Linker_layOut_38 rfl (lv_at hl 0 rfl) ?_
  refine lv_iconst (v := 1) hx hb d_Linker_layOut_39 (by decide) ?_
  refine lv_aload_n hx hb d_Linker_layOut_40 rfl (lv_at hl 0 rfl) ?_
  refine gf_Linker_49 hC hK hG d_Linker_layOut_41 ?_
  obtain ⟨r44_8, M44_9, hc44_7, hf⟩ := sm_of_b2 hf
  refine ca_Linker_71 hC hK hG (c_Linker_layOutSections hc44_7) hl.1 ⟨Nat.le_of_ble_eq_true rfl, Nat.le_of_ble_eq_true rfl⟩ ⟨Nat.zero_le _, Nat.zero_le _⟩ (Nat.le_of_ble_eq_true rfl) d_Linker_layOut_44 (fun H locs hG => ?_)
  refine pf_Linker_46 hC hK hG d_Linker_layOut_47 (fun M47_10 H locs eM47_10 hG => ?_)
  have hf := sm_of eM47_10 hf
  obtain rfl := Option.some.inj hf
  exact sm_vret hC hr hlk hG d_Linker_layOut_50
abbrev w_Linker_addressOf : List Cond := Cond.code y_Linker_addressOf b_Linker_addressOf 4 (some .int) :: sm_AW
abbrev rm_Linker_addressOf : Room := { frames := 0, cells := 0, slots := 0, locals := 0 }
def f_Linker_addressOf (M : sm_M) (a0 : Int32) (a1 : Int32) (a2 : Int32) : Option (Int32) :=
sm_gd ((a1 * (4 : Int32)) + a0) 8 (
(some ((M 59 (Int32.toNatClampNeg ((a1 * (4 : Int32)) + a0))) + ((4 : Int32) * a2))))
set_option maxHeartbeats 4000000 in
set_option maxRecDepth 100000 in
theorem c_Linker_addressOf {l : Launch} {v : sm_V} {o : sm_O} {M : sm_M} {a0 : Int32} {a1 : Int32} {a2 : Int32} {r : Int32} (hf : f_Linker_addressOf M a0 a1 a2 = some r) : sm_Ri l y_Linker_addressOf w_Linker_addressOf rm_Linker_addressOf v [.ref (sm_a v 1), .int a0, .int a1, .int a2] M o r  := by
  refine sm_met (cc := b_Linker_addressOf) (nL := 4) (ret := some .int) (plainFor_of_name (by decide)) rfl (Nat.le_of_ble_eq_true rfl) (fun p e s m args below meth c hC hr hlk hK hG ls hl => ?_)
  have hx := hC.1
  have hb := hC.2.1
  have hl : lv_has ls 4 [(0, .ref (sm_a v 1)), (1, .int a0), (2, .int a1), (3, .int a2)] := hl
  unfold f_Linker_addressOf at hf
  refine lv_aload_n hx hb d_Linker_addressOf_0 rfl (lv_at hl 0 rfl) ?_
  refine gf_Linker_18 hC hK hG d_Linker_addressOf_1 ?_
  refine lv_iload_n hx hb d_Linker_addressOf_4 rfl (lv_at hl 2 rfl) ?_
  refine lv_iconst (v := 4) hx hb d_Linker_addressOf_5 (by decide) ?_
  refine lv_imul hx hb d_Linker_addressOf_6 ?_
  refine lv_iload_n hx hb d_Linker_addressOf_7 rfl (lv_at hl 1 rfl) ?_
  refine lv_iadd hx hb d_Linker_addressOf_8 ?_
  obtain ⟨h9_1, hf⟩ := sm_of_gd hf
  refine sm_iald hC hK hG (by decide) rfl h9_1 d_Linker_addressOf_9 ?_
  refine lv_iconst (v := 4) hx hb d_Linker_addressOf_10 (by decide) ?_
  refine lv_iload_n hx hb d_Linker_addressOf_11 rfl (lv_at hl 3 rfl) ?_
  refine lv_imul hx hb d_Linker_addressOf_12 ?_
  refine lv_iadd hx hb d_Linker_addressOf_13 ?_
  obtain rfl := Option.some.inj hf
  exact sm_iret0 hC hr hlk d_Linker_addressOf_14
theorem ca_Linker_140 {p : Program} {l : Launch} {e : Env} {R : Room} {s : State} {m : MethodId} {args : Array Value} {below : List Frame} {meth : Method} {c : Code} {H : Heap} {locs : List Loc} {cells slots : Nat} {Q : State → Prop} {cc : ByteArray} {nL pc : Nat} {ls : Array Slot} {rest : List Value} {w0 : Cond} {v : sm_V} {M : sm_M} {o : sm_O} {x0 : Int32} {x1 : Int32} {x2 : Int32} {r : Int32} (hC : CallFix p m c cc nL s args (w0 :: sm_AW) R_Linker) (hK : sm_K v s) (hG : sm_G v M o s H locs) (hM : sm_Ri l y_Linker_addressOf w_Linker_addressOf rm_Linker_addressOf v [.ref (sm_a v 1), .int x0, .int x1, .int x2] M o r) (hsz : ls.size = nL) (hR : rm_Linker_addressOf.frames + 1 ≤ R.frames ∧ 8 + (4 + 11) + rm_Linker_addressOf.locals ≤ R.locals) (hcs : cells + 0 ≤ R.cells ∧ slots + 0 ≤ R.slots) (hW : (rest.map fun v => v.category).sum ≤ 8) (hdg : decode cc pc = .ok (.invokevirtual 140, 3))
    (kk : W p l e R s m args below meth c H locs cells slots Q (F0 m (pc + 3) ls (.int r :: rest))) : W p l e R s m args below meth c H locs cells slots Q (F0 m pc ls (.int x2 :: .int x1 :: .int x0 :: .ref (sm_a v 1) :: rest)) :=
  sm_calli0 (va_runV (C := R_Linker) (As := [.int x0, .int x1, .int x2]) (rest := rest) hC hM (cwV 3 hC.2.2.2.2 (sm_good (sm_inV aw_478 aw_480 as_5 aw_2 aw_481)) rfl rfl rfl (by decide +kernel) hR) (sm_preV hK hG (by decide) rfl rfl) rfl rfl hsz rfl (lv_room hW) hdg hcs) kk
abbrev w_Linker_definedAddress : List Cond := Cond.code y_Linker_definedAddress b_Linker_definedAddress 3 (some .int) :: sm_AW
abbrev rm_Linker_definedAddress : Room := { frames := 1, cells := 0, slots := 0, locals := 23 }
def f_Linker_definedAddress (M : sm_M) (a0 : Int32) (a1 : Int32) : Option (Int32) :=
sm_gd a0 4 (
sm_nm (3 + 14 * Int32.toNatClampNeg a0) fun k7_2 =>
sm_gd a1 8 (
sm_gd a0 4 (
sm_nm (3 + 14 * Int32.toNatClampNeg a0) fun k18_5 =>
sm_gd a1 8 (
sm_b1 (f_Linker_addressOf M a0 (M (k7_2 + 6) (Int32.toNatClampNeg a1)) (M (k18_5 + 7) (Int32.toNatClampNeg a1))) fun r24_8 =>
(some r24_8)))))
set_option maxHeartbeats 4000000 in
set_option maxRecDepth 100000 in
theorem c_Linker_definedAddress {l : Launch} {v : sm_V} {o : sm_O} {M : sm_M} {a0 : Int32} {a1 : Int32} {r : Int32} (hf : f_Linker_definedAddress M a0 a1 = some r) : sm_Ri l y_Linker_definedAddress w_Linker_definedAddress rm_Linker_definedAddress v [.ref (sm_a v 1), .int a0, .int a1] M o r  := by
  refine sm_met (cc := b_Linker_definedAddress) (nL := 3) (ret := some .int) (plainFor_of_name (by decide)) rfl (Nat.le_of_ble_eq_true rfl) (fun p e s m args below meth c hC hr hlk hK hG ls hl => ?_)
  have hx := hC.1
  have hb := hC.2.1
  have hl : lv_has ls 3 [(0, .ref (sm_a v 1)), (1, .int a0), (2, .int a1)] := hl
  unfold f_Linker_definedAddress at hf
  refine lv_aload_n hx hb d_Linker_definedAddress_0 rfl (lv_at hl 0 rfl) ?_
  refine lv_iload_n hx hb d_Linker_definedAddress_1 rfl (lv_at hl 1 rfl) ?_
  refine lv_aload_n hx hb d_Linker_definedAddress_2 rfl (lv_at hl 0 rfl) ?_
  refine gf_Linker_11 hC hK hG d_Linker_definedAddress_3 ?_
  refine lv_iload_n hx hb d_Linker_definedAddress_6 rfl (lv_at hl 1 rfl) ?_
  obtain ⟨h7_1, hf⟩ := sm_of_gd hf
  refine sm_aald hC hK hG h7_1 d_Linker_definedAddress_7 (fun k7_2 ek7_2 hk7_2 => ?_)
  have hf := sm_of ek7_2 hf
  refine gf_Linker_134 hC hK hG hk7_2 d_Linker_definedAddress_8 ?_
  refine lv_iload_n hx hb d_Linker_definedAddress_11 rfl (lv_at hl 2 rfl) ?_
  obtain ⟨h12_3, hf⟩ := sm_of_gd hf
  refine sm_iald hC hK hG (sm_p6 hk7_2).1 (sm_p6 hk7_2).2 h12_3 d_Linker_definedAddress_12 ?_
  refine lv_aload_n hx hb d_Linker_definedAddress_13 rfl (lv_at hl 0 rfl) ?_
  refine gf_Linker_11 hC hK hG d_Linker_definedAddress_14 ?_
  refine lv_iload_n hx hb d_Linker_definedAddress_17 rfl (lv_at hl 1 rfl) ?_
  obtain ⟨h18_4, hf⟩ := sm_of_gd hf
  refine sm_aald hC hK hG h18_4 d_Linker_definedAddress_18 (fun k18_5 ek18_5 hk18_5 => ?_)
  have hf := sm_of ek18_5 hf
  refine gf_Linker_137 hC hK hG hk18_5 d_Linker_definedAddress_19 ?_
  refine lv_iload_n hx hb d_Linker_definedAddress_22 rfl (lv_at hl 2 rfl) ?_
  obtain ⟨h23_6, hf⟩ := sm_of_gd hf
  refine sm_iald hC hK hG (sm_p7 hk18_5).1 (sm_p7 hk18_5).2 h23_6 d_Linker_definedAddress_23 ?_
  obtain ⟨r24_8, hc24_7, hf⟩ := sm_of_b1 hf
  refine ca_Linker_140 hC hK hG (c_Linker_addressOf hc24_7) hl.1 ⟨Nat.le_of_ble_eq_true rfl, Nat.le_of_ble_eq_true rfl⟩ ⟨Nat.zero_le _, Nat.zero_le _⟩ (Nat.le_of_ble_eq_true rfl) d_Linker_definedAddress_24 ?_
  obtain rfl := Option.some.inj hf
  exact sm_iret0 hC hr hlk d_Linker_definedAddress_27
theorem ca_Linker_84 {p : Program} {l : Launch} {e : Env} {R : Room} {s : State} {m : MethodId} {args : Array Value} {below : List Frame} {meth : Method} {c : Code} {H : Heap} {locs : List Loc} {cells slots : Nat} {Q : State → Prop} {cc : ByteArray} {nL pc : Nat} {ls : Array Slot} {rest : List Value} {w0 : Cond} {v : sm_V} {M : sm_M} {o : sm_O} {x0 : Int32} {r : Int32} (hC : CallFix p m c cc nL s args (w0 :: sm_AW) R_Linker) (hK : sm_K v s) (hG : sm_G v M o s H locs) {k : Nat} (hk : sm_isP k) (hM : sm_Ri l y_Part_globalDefinitionOf w_Part_globalDefinitionOf rm_Part_globalDefinitionOf v [.ref (sm_a v k), .int x0] M o r) (hsz : ls.size = nL) (hR : rm_Part_globalDefinitionOf.frames + 1 ≤ R.frames ∧ 8 + (3 + 11) + rm_Part_globalDefinitionOf.locals ≤ R.locals) (hcs : cells + 0 ≤ R.cells ∧ slots + 0 ≤ R.slots) (hW : (rest.map fun v => v.category).sum ≤ 8) (hdg : decode cc pc = .ok (.invokevirtual 84, 3))
    (kk : W p l e R s m args below meth c H locs cells slots Q (F0 m (pc + 3) ls (.int r :: rest))) : W p l e R s m args below meth c H locs cells slots Q (F0 m pc ls (.int x0 :: .ref (sm_a v k) :: rest)) :=
  sm_calli0 (va_runV (C := R_Part) (As := [.int x0]) (rest := rest) hC hM (cwV 1 hC.2.2.2.2 (sm_good (sm_inV aw_470 aw_471 aw_472 aw_3 aw_473)) rfl rfl rfl (by decide +kernel) hR) (sm_preV hK hG (sm_p hk).1 (sm_p hk).2 rfl) rfl rfl hsz rfl (lv_room hW) hdg hcs) kk
theorem ca_Linker_87 {p : Program} {l : Launch} {e : Env} {R : Room} {s : State} {m : MethodId} {args : Array Value} {below : List Frame} {meth : Method} {c : Code} {H : Heap} {locs : List Loc} {cells slots : Nat} {Q : State → Prop} {cc : ByteArray} {nL pc : Nat} {ls : Array Slot} {rest : List Value} {w0 : Cond} {v : sm_V} {M : sm_M} {o : sm_O} {x0 : Int32} {x1 : Int32} {r : Int32} (hC : CallFix p m c cc nL s args (w0 :: sm_AW) R_Linker) (hK : sm_K v s) (hG : sm_G v M o s H locs) (hM : sm_Ri l y_Linker_definedAddress w_Linker_definedAddress rm_Linker_definedAddress v [.ref (sm_a v 1), .int x0, .int x1] M o r) (hsz : ls.size = nL) (hR : rm_Linker_definedAddress.frames + 1 ≤ R.frames ∧ 8 + (3 + 11) + rm_Linker_definedAddress.locals ≤ R.locals) (hcs : cells + 0 ≤ R.cells ∧ slots + 0 ≤ R.slots) (hW : (rest.map fun v => v.category).sum ≤ 8) (hdg : decode cc pc = .ok (.invokevirtual 87, 3))
    (kk : W p l e R s m args below meth c H locs cells slots Q (F0 m (pc + 3) ls (.int r :: rest))) : W p l e R s m args below meth c H locs cells slots Q (F0 m pc ls (.int x1 :: .int x0 :: .ref (sm_a v 1) :: rest)) :=
  sm_calli0 (va_runV (C := R_Linker) (As := [.int x0, .int x1]) (rest := rest) hC hM (cwV 2 hC.2.2.2.2 (sm_good (sm_inV aw_474 aw_476 as_4 aw_2 aw_477)) rfl rfl rfl (by decide +kernel) hR) (sm_preV hK hG (by decide) rfl rfl) rfl rfl hsz rfl (lv_room hW) hdg hcs) kk
abbrev w_Linker_findGlobals : List Cond := Cond.code y_Linker_findGlobals b_Linker_findGlobals 4 (none) :: sm_AW
abbrev rm_Linker_findGlobals : Room := { frames := 2, cells := 0, slots := 0, locals := 45 }
def g_Linker_findGlobals_17 (w1 : Int32) (rec2 : sm_M → Int32 → Option (sm_M)) (rec17 : sm_M → Int32 → Option (sm_M)) (M : sm_M) (w2 : Int32) : Option (sm_M) :=
(if (4 : Int32) ≤ w2 then
rec2 M (w1 + (1 : Int32))
else
sm_gd w2 4 (
sm_nm (3 + 14 * Int32.toNatClampNeg w2) fun k27_6 =>
sm_b1 (f_Part_globalDefinitionOf M k27_6 w1) fun r29_8 =>
(if r29_8 = (-1 : Int32) then
rec17 M (w2 + (1 : Int32))
else
sm_b1 (f_Linker_definedAddress M w2 r29_8) fun r46_12 =>
sm_gd w1 16 (
sm_nm (sm_up M 60 (Int32.toNatClampNeg w1) r46_12) fun M49_15 =>
rec17 M49_15 (w2 + (1 : Int32))))))
def g_Linker_findGlobals_2 (rec2 : sm_M → Int32 → Option (sm_M)) (M : sm_M) (w1 : Int32) : Option (sm_M) :=
(if (16 : Int32) ≤ w1 then
(some M)
else
sm_gd w1 16 (
sm_nm (sm_up M 60 (Int32.toNatClampNeg w1) (-1 : Int32)) fun M14_3 =>
sm_lp2 (g_Linker_findGlobals_17 w1 rec2) 1100 M14_3 (0 : Int32)))
def f_Linker_findGlobals (M : sm_M) : Option (sm_M) :=
sm_lp2 (g_Linker_findGlobals_2) 1100 M (0 : Int32)
set_option maxHeartbeats 4000000 in
set_option maxRecDepth 100000 in
theorem lw_Linker_findGlobals_17 {p : Program} {l : Launch} {e : Env} {s : State} {m : MethodId} {args : Array Value} {below : List Frame} {meth : Method} {c : Code} {v : sm_V} {o : sm_O} {M' : sm_M} (hC : CallFix p m c b_Linker_findGlobals 4 s args w_Linker_findGlobals R_Linker) (hr : meth.sig.returnType = none) (hlk : meth.locks = false) (hK : sm_K v s) (w1 : Int32) (rec2 : sm_M → Int32 → Option (sm_M)) (hout2 : ∀ (M : sm_M) (w1 : Int32) (H : Heap) (locs : List Loc) (ls : Array Slot), sm_G v M o s H locs → lv_has ls 4 [(1, .int w1), (0, .ref (sm_a v 1))] → rec2 M w1 = some M' → W p l e rm_Linker_findGlobals s m args below meth c H locs 0 0 (MQ below (sm_Qv v M' o) args s 0 0 (sm_A v)) (F0 m 2 ls [])) :
    ∀ (n : Nat) (M : sm_M) (w2 : Int32) (H : Heap) (locs : List Loc) (ls : Array Slot), sm_G v M o s H locs → lv_has ls 4 [(2, .int w2), (1, .int w1), (0, .ref (sm_a v 1))] → sm_lp2 (g_Linker_findGlobals_17 w1 rec2) n M w2 = some M' → W p l e rm_Linker_findGlobals s m args below meth c H locs 0 0 (MQ below (sm_Qv v M' o) args s 0 0 (sm_A v)) (F0 m 17 ls []) := by
  have hx := hC.1
  have hb := hC.2.1
  intro n
  induction n with
  | zero =>
    intro M w2 H locs ls hG hl hf
    cases hf
  | succ n ih =>
    intro M w2 H locs ls hG hl hf
    have hf : g_Linker_findGlobals_17 w1 rec2 (sm_lp2 (g_Linker_findGlobals_17 w1 rec2) n) M w2 = some M' := hf
    unfold g_Linker_findGlobals_17 at hf
    refine lv_iload_n hx hb d_Linker_findGlobals_17 rfl (lv_at hl 0 rfl) ?_
    refine lv_iconst (v := 4) hx hb d_Linker_findGlobals_18 (by decide) ?_
    refine lv_icmp_ge hx hb d_Linker_findGlobals_19 rfl (fun h19_4 => ?_) (fun h19_4 => ?_)
    · have hf := sm_t h19_4 hf
      refine lv_iinc (v := w1 + (1 : Int32)) (k := 1) hx hb d_Linker_findGlobals_56 hl rfl rfl (Nat.le_of_ble_eq_true rfl) rfl (fun ls hl => ?_)
      have hl : lv_has ls 4 [(1, .int (w1 + (1 : Int32))), (2, .int w2), (0, .ref (sm_a v 1))] := hl
      refine lv_goto hx hb d_Linker_findGlobals_59 rfl ?_
      exact hout2 _ _ _ _ ls hG (lv_sub hl [0, 2] rfl) hf
    · have hf := sm_f h19_4 hf
      refine lv_aload_n hx hb d_Linker_findGlobals_22 rfl (lv_at hl 2 rfl) ?_
      refine gf_Linker_11 hC hK hG d_Linker_findGlobals_23 ?_
      refine lv_iload_n hx hb d_Linker_findGlobals_26 rfl (lv_at hl 0 rfl) ?_
      obtain ⟨h27_5, hf⟩ := sm_of_gd hf
      refine sm_aald hC hK hG h27_5 d_Linker_findGlobals_27 (fun k27_6 ek27_6 hk27_6 => ?_)
      have hf := sm_of ek27_6 hf
      refine lv_iload_n hx hb d_Linker_findGlobals_28 rfl (lv_at hl 1 rfl) ?_
      obtain ⟨r29_8, hc29_7, hf⟩ := sm_of_b1 hf
      refine ca_Linker_84 hC hK hG hk27_6 (c_Part_globalDefinitionOf hk27_6 hc29_7) hl.1 ⟨Nat.le_of_ble_eq_true rfl, Nat.le_of_ble_eq_true rfl⟩ ⟨Nat.zero_le _, Nat.zero_le _⟩ (Nat.le_of_ble_eq_true rfl) d_Linker_findGlobals_29 ?_
      refine lv_istore_n hx hb d_Linker_findGlobals_32 rfl hl (Nat.le_of_ble_eq_true rfl) rfl (fun ls hl => ?_)
      have hl : lv_has ls 4 [(3, .int r29_8), (2, .int w2), (1, .int w1), (0, .ref (sm_a v 1))] := hl
      refine lv_iload_n hx hb d_Linker_findGlobals_33 rfl (lv_at hl 0 rfl) ?_
      refine lv_iconst (v := -1) hx hb d_Linker_findGlobals_34 (by decide) ?_
      refine lv_icmp_eq hx hb d_Linker_findGlobals_35 rfl (fun h35_10 => ?_) (fun h35_10 => ?_)
      · have hf := sm_t h35_10 hf
        refine lv_iinc (v := w2 + (1 : Int32)) (k := 1) hx hb d_Linker_findGlobals_50 hl rfl rfl (Nat.le_of_ble_eq_true rfl) rfl (fun ls hl => ?_)
        have hl : lv_has ls 4 [(2, .int (w2 + (1 : Int32))), (3, .int r29_8), (1, .int w1), (0, .ref (sm_a v 1))] := hl
        refine lv_goto hx hb d_Linker_findGlobals_53 rfl ?_
        exact ih _ _ _ _ ls hG (lv_sub hl [0, 2, 3] rfl) hf
      · have hf := sm_f h35_10 hf
        refine lv_aload_n hx hb d_Linker_findGlobals_38 rfl (lv_at hl 3 rfl) ?_
        refine gf_Linker_22 hC hK hG d_Linker_findGlobals_39 ?_
        refine lv_iload_n hx hb d_Linker_findGlobals_42 rfl (lv_at hl 2 rfl) ?_
        refine lv_aload_n hx hb d_Linker_findGlobals_43 rfl (lv_at hl 3 rfl) ?_
        refine lv_iload_n hx hb d_Linker_findGlobals_44 rfl (lv_at hl 1 rfl) ?_
        refine lv_iload_n hx hb d_Linker_findGlobals_45 rfl (lv_at hl 0 rfl) ?_
        obtain ⟨r46_12, hc46_11, hf⟩ := sm_of_b1 hf
        refine ca_Linker_87 hC hK hG (c_Linker_definedAddress hc46_11) hl.1 ⟨Nat.le_of_ble_eq_true rfl, Nat.le_of_ble_eq_true rfl⟩ ⟨Nat.zero_le _, Nat.zero_le _⟩ (Nat.le_of_ble_eq_true rfl) d_Linker_findGlobals_46 ?_
        obtain ⟨h49_14, hf⟩ := sm_of_gd hf
        refine sm_iast hC hK hG (by decide) rfl h49_14 d_Linker_findGlobals_49 (fun M49_15 H locs eM49_15 hG => ?_)
        have hf := sm_of eM49_15 hf
        refine lv_iinc (v := w2 + (1 : Int32)) (k := 1) hx hb d_Linker_findGlobals_50 hl rfl rfl (Nat.le_of_ble_eq_true rfl) rfl (fun ls hl => ?_)
        have hl : lv_has ls 4 [(2, .int (w2 + (1 : Int32))), (3, .int r29_8), (1, .int w1), (0, .ref (sm_a v 1))] := hl
        refine lv_goto hx hb d_Linker_findGlobals_53 rfl ?_
        exact ih _ _ _ _ ls hG (lv_sub hl [0, 2, 3] rfl) hf
set_option maxHeartbeats 4000000 in
set_option maxRecDepth 100000 in
theorem lw_Linker_findGlobals_2 {p : Program} {l : Launch} {e : Env} {s : State} {m : MethodId} {args : Array Value} {below : List Frame} {meth : Method} {c : Code} {v : sm_V} {o : sm_O} {M' : sm_M} (hC : CallFix p m c b_Linker_findGlobals 4 s args w_Linker_findGlobals R_Linker) (hr : meth.sig.returnType = none) (hlk : meth.locks = false) (hK : sm_K v s) :
    ∀ (n : Nat) (M : sm_M) (w1 : Int32) (H : Heap) (locs : List Loc) (ls : Array Slot), sm_G v M o s H locs → lv_has ls 4 [(1, .int w1), (0, .ref (sm_a v 1))] → sm_lp2 (g_Linker_findGlobals_2) n M w1 = some M' → W p l e rm_Linker_findGlobals s m args below meth c H locs 0 0 (MQ below (sm_Qv v M' o) args s 0 0 (sm_A v)) (F0 m 2 ls []) := by
  have hx := hC.1
  have hb := hC.2.1
  intro n
  induction n with
  | zero =>
    intro M w1 H locs ls hG hl hf
    cases hf
  | succ n ih =>
    intro M w1 H locs ls hG hl hf
    have hf : g_Linker_findGlobals_2 (sm_lp2 (g_Linker_findGlobals_2) n) M w1 = some M' := hf
    unfold g_Linker_findGlobals_2 at hf
    refine lv_iload_n hx hb d_Linker_findGlobals_2 rfl (lv_at hl 0 rfl) ?_
    refine lv_bipush (v := 16) hx hb d_Linker_findGlobals_3 (by decide) ?_
    refine lv_icmp_ge hx hb d_Linker_findGlobals_5 rfl (fun h5_1 => ?_) (fun h5_1 => ?_)
    · have hf := sm_t h5_1 hf
      obtain rfl := Option.some.inj hf
      exact sm_vret hC hr hlk hG d_Linker_findGlobals_62
    · have hf := sm_f h5_1 hf
      refine lv_aload_n hx hb d_Linker_findGlobals_8 rfl (lv_at hl 1 rfl) ?_
      refine gf_Linker_22 hC hK hG d_Linker_findGlobals_9 ?_
      refine lv_iload_n hx hb d_Linker_findGlobals_12 rfl (lv_at hl 0 rfl) ?_
      refine lv_iconst (v := -1) hx hb d_Linker_findGlobals_13 (by decide) ?_
      obtain ⟨h14_2, hf⟩ := sm_of_gd hf
      refine sm_iast hC hK hG (by decide) rfl h14_2 d_Linker_findGlobals_14 (fun M14_3 H locs eM14_3 hG => ?_)
      have hf := sm_of eM14_3 hf
      refine lv_iconst (v := 0) hx hb d_Linker_findGlobals_15 (by decide) ?_
      refine lv_istore_n hx hb d_Linker_findGlobals_16 rfl hl (Nat.le_of_ble_eq_true rfl) rfl (fun ls hl => ?_)
      have hl : lv_has ls 4 [(2, .int (0 : Int32)), (1, .int w1), (0, .ref (sm_a v 1))] := hl
      exact lw_Linker_findGlobals_17 hC hr hlk hK w1 _ ih 1100 _ _ _ _ ls hG hl hf
set_option maxHeartbeats 4000000 in
set_option maxRecDepth 100000 in
theorem c_Linker_findGlobals {l : Launch} {v : sm_V} {o : sm_O} {M : sm_M} {M' : sm_M} (hf : f_Linker_findGlobals M = some M') : sm_Cv l y_Linker_findGlobals w_Linker_findGlobals rm_Linker_findGlobals v [.ref (sm_a v 1)] M o M' := by
  refine sm_met (cc := b_Linker_findGlobals) (nL := 4) (ret := none) (plainFor_of_name (by decide)) rfl (Nat.le_of_ble_eq_true rfl) (fun p e s m args below meth c hC hr hlk hK hG ls hl => ?_)
  have hx := hC.1
  have hb := hC.2.1
  have hl : lv_has ls 4 [(0, .ref (sm_a v 1))] := hl
  unfold f_Linker_findGlobals at hf
  refine lv_iconst (v := 0) hx hb d_Linker_findGlobals_0 (by decide) ?_
  refine lv_istore_n hx hb d_Linker_findGlobals_1 rfl hl (Nat.le_of_ble_eq_true rfl) rfl (fun ls hl => ?_)
  have hl : lv_has ls 4 [(1, .int (0 : Int32)), (0, .ref (sm_a v 1))] := hl
  exact lw_Linker_findGlobals_2 hC hr hlk hK  1100 _ _ _ _ ls hG hl hf
theorem ca_Linker_104 {p : Program} {l : Launch} {e : Env} {R : Room} {s : State} {m : MethodId} {args : Array Value} {below : List Frame} {meth : Method} {c : Code} {H : Heap} {locs : List Loc} {cells slots : Nat} {Q : State → Prop} {cc : ByteArray} {nL pc : Nat} {ls : Array Slot} {rest : List Value} {w0 : Cond} {v : sm_V} {M : sm_M} {o : sm_O} {x0 : Int32} {r : Int32} (hC : CallFix p m c cc nL s args (w0 :: sm_AW) R_Linker) (hK : sm_K v s) (hG : sm_G v M o s H locs) {k : Nat} (hk : sm_isP k) (hM : sm_Ri l y_Part_timesDefined w_Part_timesDefined rm_Part_timesDefined v [.ref (sm_a v k), .int x0] M o r) (hsz : ls.size = nL) (hR : rm_Part_timesDefined.frames + 1 ≤ R.frames ∧ 8 + (4 + 11) + rm_Part_timesDefined.locals ≤ R.locals) (hcs : cells + 0 ≤ R.cells ∧ slots + 0 ≤ R.slots) (hW : (rest.map fun v => v.category).sum ≤ 8) (hdg : decode cc pc = .ok (.invokevirtual 104, 3))
    (kk : W p l e R s m args below meth c H locs cells slots Q (F0 m (pc + 3) ls (.int r :: rest))) : W p l e R s m args below meth c H locs cells slots Q (F0 m pc ls (.int x0 :: .ref (sm_a v k) :: rest)) :=
  sm_calli0 (va_runV (C := R_Part) (As := [.int x0]) (rest := rest) hC hM (cwV 1 hC.2.2.2.2 (sm_good (sm_inV aw_494 aw_495 aw_496 aw_3 aw_497)) rfl rfl rfl (by decide +kernel) hR) (sm_preV hK hG (sm_p hk).1 (sm_p hk).2 rfl) rfl rfl hsz rfl (lv_room hW) hdg hcs) kk
abbrev w_Linker_isDoubled : List Cond := Cond.code y_Linker_isDoubled b_Linker_isDoubled 4 (some .boolean) :: sm_AW
abbrev rm_Linker_isDoubled : Room := { frames := 1, cells := 0, slots := 0, locals := 23 }
def g_Linker_isDoubled_4 (M : sm_M) (w1 : Int32) (rec4 : Int32 → Int32 → Option (Int32)) (w3 : Int32) (w2 : Int32) : Option (Int32) :=
(if (4 : Int32) ≤ w3 then
(if w2 ≤ (1 : Int32) then
(some (0 : Int32))
else
(some (1 : Int32)))
else
sm_gd w3 4 (
sm_nm (3 + 14 * Int32.toNatClampNeg w3) fun k14_4 =>
sm_b1 (f_Part_timesDefined M k14_4 w1) fun r16_6 =>
(if r16_6 ≤ (1 : Int32) then
sm_gd w3 4 (
sm_nm (3 + 14 * Int32.toNatClampNeg w3) fun k30_10 =>
sm_b1 (f_Part_globalDefinitionOf M k30_10 w1) fun r32_12 =>
(if r32_12 = (-1 : Int32) then
rec4 (w3 + (1 : Int32)) w2
else
rec4 (w3 + (1 : Int32)) (w2 + (1 : Int32))))
else
(some (1 : Int32)))))
def f_Linker_isDoubled (M : sm_M) (a0 : Int32) : Option (Int32) :=
sm_lp2 (g_Linker_isDoubled_4 M a0) 1100 (0 : Int32) (0 : Int32)
set_option maxHeartbeats 4000000 in
set_option maxRecDepth 100000 in
theorem lw_Linker_isDoubled_4 {p : Program} {l : Launch} {e : Env} {s : State} {m : MethodId} {args : Array Value} {below : List Frame} {meth : Method} {c : Code} {v : sm_V} {o : sm_O} {r : Int32} (hC : CallFix p m c b_Linker_isDoubled 4 s args w_Linker_isDoubled R_Linker) (hr : meth.sig.returnType = some .boolean) (hlk : meth.locks = false) (hK : sm_K v s) (M : sm_M) (w1 : Int32) (hG : sm_G v M o s s.heap []) :
    ∀ (n : Nat) (w3 : Int32) (w2 : Int32) (ls : Array Slot), lv_has ls 4 [(3, .int w3), (2, .int w2), (0, .ref (sm_a v 1)), (1, .int w1)] → sm_lp2 (g_Linker_isDoubled_4 M w1) n w3 w2 = some r → W p l e rm_Linker_isDoubled s m args below meth c s.heap [] 0 0 (MQ below (sm_Qi0 r) args s 0 0 (fun _ => False)) (F0 m 4 ls []) := by
  have hx := hC.1
  have hb := hC.2.1
  intro n
  induction n with
  | zero =>
    intro w3 w2 ls hl hf
    cases hf
  | succ n ih =>
    intro w3 w2 ls hl hf
    have hf : g_Linker_isDoubled_4 M w1 (sm_lp2 (g_Linker_isDoubled_4 M w1) n) w3 w2 = some r := hf
    unfold g_Linker_isDoubled_4 at hf
    refine lv_iload_n hx hb d_Linker_isDoubled_4 rfl (lv_at hl 0 rfl) ?_
    refine lv_iconst (v := 4) hx hb d_Linker_isDoubled_5 (by decide) ?_
    refine lv_icmp_ge hx hb d_Linker_isDoubled_6 rfl (fun h6_1 => ?_) (fun h6_1 => ?_)
    · have hf := sm_t h6_1 hf
      refine lv_iload_n hx hb d_Linker_isDoubled_48 rfl (lv_at hl 1 rfl) ?_
      refine lv_iconst (v := 1) hx hb d_Linker_isDoubled_49 (by decide) ?_
      refine lv_icmp_le hx hb d_Linker_isDoubled_50 rfl (fun h50_2 => ?_) (fun h50_2 => ?_)
      · have hf := sm_t h50_2 hf
        refine lv_iconst (v := 0) hx hb d_Linker_isDoubled_57 (by decide) ?_
        obtain rfl := Option.some.inj hf
        exact sm_zret0 hC hr rfl hlk d_Linker_isDoubled_58
      · have hf := sm_f h50_2 hf
        refine lv_iconst (v := 1) hx hb d_Linker_isDoubled_53 (by decide) ?_
        refine lv_goto hx hb d_Linker_isDoubled_54 rfl ?_
        obtain rfl := Option.some.inj hf
        exact sm_zret0 hC hr rfl hlk d_Linker_isDoubled_58
    · have hf := sm_f h6_1 hf
      refine lv_aload_n hx hb d_Linker_isDoubled_9 rfl (lv_at hl 2 rfl) ?_
      refine gf_Linker_11 hC hK hG d_Linker_isDoubled_10 ?_
      refine lv_iload_n hx hb d_Linker_isDoubled_13 rfl (lv_at hl 0 rfl) ?_
      obtain ⟨h14_3, hf⟩ := sm_of_gd hf
      refine sm_aald hC hK hG h14_3 d_Linker_isDoubled_14 (fun k14_4 ek14_4 hk14_4 => ?_)
      have hf := sm_of ek14_4 hf
      refine lv_iload_n hx hb d_Linker_isDoubled_15 rfl (lv_at hl 3 rfl) ?_
      obtain ⟨r16_6, hc16_5, hf⟩ := sm_of_b1 hf
      refine ca_Linker_104 hC hK hG hk14_4 (c_Part_timesDefined hk14_4 hc16_5) hl.1 ⟨Nat.le_of_ble_eq_true rfl, Nat.le_of_ble_eq_true rfl⟩ ⟨Nat.zero_le _, Nat.zero_le _⟩ (Nat.le_of_ble_eq_true rfl) d_Linker_isDoubled_16 ?_
      refine lv_iconst (v := 1) hx hb d_Linker_isDoubled_19 (by decide) ?_
      refine lv_icmp_le hx hb d_Linker_isDoubled_20 rfl (fun h20_8 => ?_) (fun h20_8 => ?_)
      · have hf := sm_t h20_8 hf
        refine lv_aload_n hx hb d_Linker_isDoubled_25 rfl (lv_at hl 2 rfl) ?_
        refine gf_Linker_11 hC hK hG d_Linker_isDoubled_26 ?_
        refine lv_iload_n hx hb d_Linker_isDoubled_29 rfl (lv_at hl 0 rfl) ?_
        obtain ⟨h30_9, hf⟩ := sm_of_gd hf
        refine sm_aald hC hK hG h30_9 d_Linker_isDoubled_30 (fun k30_10 ek30_10 hk30_10 => ?_)
        have hf := sm_of ek30_10 hf
        refine lv_iload_n hx hb d_Linker_isDoubled_31 rfl (lv_at hl 3 rfl) ?_
        obtain ⟨r32_12, hc32_11, hf⟩ := sm_of_b1 hf
        refine ca_Linker_84 hC hK hG hk30_10 (c_Part_globalDefinitionOf hk30_10 hc32_11) hl.1 ⟨Nat.le_of_ble_eq_true rfl, Nat.le_of_ble_eq_true rfl⟩ ⟨Nat.zero_le _, Nat.zero_le _⟩ (Nat.le_of_ble_eq_true rfl) d_Linker_isDoubled_32 ?_
        refine lv_iconst (v := -1) hx hb d_Linker_isDoubled_35 (by decide) ?_
        refine lv_icmp_eq hx hb d_Linker_isDoubled_36 rfl (fun h36_14 => ?_) (fun h36_14 => ?_)
        · have hf := sm_t h36_14 hf
          refine lv_iinc (v := w3 + (1 : Int32)) (k := 0) hx hb d_Linker_isDoubled_42 hl rfl rfl (Nat.le_of_ble_eq_true rfl) rfl (fun ls hl => ?_)
          have hl : lv_has ls 4 [(3, .int (w3 + (1 : Int32))), (2, .int w2), (0, .ref (sm_a v 1)), (1, .int w1)] := hl
          refine lv_goto hx hb d_Linker_isDoubled_45 rfl ?_
          exact ih _ _ ls hl hf
        · have hf := sm_f h36_14 hf
          refine lv_iinc (v := w2 + (1 : Int32)) (k := 1) hx hb d_Linker_isDoubled_39 hl rfl rfl (Nat.le_of_ble_eq_true rfl) rfl (fun ls hl => ?_)
          have hl : lv_has ls 4 [(2, .int (w2 + (1 : Int32))), (3, .int w3), (0, .ref (sm_a v 1)), (1, .int w1)] := hl
          refine lv_iinc (v := w3 + (1 : Int32)) (k := 1) hx hb d_Linker_isDoubled_42 hl rfl rfl (Nat.le_of_ble_eq_true rfl) rfl (fun ls hl => ?_)
          have hl : lv_has ls 4 [(3, .int (w3 + (1 : Int32))), (2, .int (w2 + (1 : Int32))), (0, .ref (sm_a v 1)), (1, .int w1)] := hl
          refine lv_goto hx hb d_Linker_isDoubled_45 rfl ?_
          exact ih _ _ ls hl hf
      · have hf := sm_f h20_8 hf
        refine lv_iconst (v := 1) hx hb d_Linker_isDoubled_23 (by decide) ?_
        obtain rfl := Option.some.inj hf
        exact sm_zret0 hC hr rfl hlk d_Linker_isDoubled_24
set_option maxHeartbeats 4000000 in
set_option maxRecDepth 100000 in
theorem c_Linker_isDoubled {l : Launch} {v : sm_V} {o : sm_O} {M : sm_M} {a0 : Int32} {r : Int32} (hf : f_Linker_isDoubled M a0 = some r) : sm_Ri l y_Linker_isDoubled w_Linker_isDoubled rm_Linker_isDoubled v [.ref (sm_a v 1), .int a0] M o r  := by
  refine sm_met (cc := b_Linker_isDoubled) (nL := 4) (ret := some .boolean) (plainFor_of_name (by decide)) rfl (Nat.le_of_ble_eq_true rfl) (fun p e s m args below meth c hC hr hlk hK hG ls hl => ?_)
  have hx := hC.1
  have hb := hC.2.1
  have hl : lv_has ls 4 [(0, .ref (sm_a v 1)), (1, .int a0)] := hl
  unfold f_Linker_isDoubled at hf
  refine lv_iconst (v := 0) hx hb d_Linker_isDoubled_0 (by decide) ?_
  refine lv_istore_n hx hb d_Linker_isDoubled_1 rfl hl (Nat.le_of_ble_eq_true rfl) rfl (fun ls hl => ?_)
  have hl : lv_has ls 4 [(2, .int (0 : Int32)), (0, .ref (sm_a v 1)), (1, .int a0)] := hl
  refine lv_iconst (v := 0) hx hb d_Linker_isDoubled_2 (by decide) ?_
  refine lv_istore_n hx hb d_Linker_isDoubled_3 rfl hl (Nat.le_of_ble_eq_true rfl) rfl (fun ls hl => ?_)
  have hl : lv_has ls 4 [(3, .int (0 : Int32)), (2, .int (0 : Int32)), (0, .ref (sm_a v 1)), (1, .int a0)] := hl
  exact lw_Linker_isDoubled_4 hC hr hlk hK M a0 hG 1100 _ _ ls hl hf
theorem ca_Linker_100 {p : Program} {l : Launch} {e : Env} {R : Room} {s : State} {m : MethodId} {args : Array Value} {below : List Frame} {meth : Method} {c : Code} {H : Heap} {locs : List Loc} {cells slots : Nat} {Q : State → Prop} {cc : ByteArray} {nL pc : Nat} {ls : Array Slot} {rest : List Value} {w0 : Cond} {v : sm_V} {M : sm_M} {o : sm_O} {x0 : Int32} {r : Int32} (hC : CallFix p m c cc nL s args (w0 :: sm_AW) R_Linker) (hK : sm_K v s) (hG : sm_G v M o s H locs) (hM : sm_Ri l y_Linker_isDoubled w_Linker_isDoubled rm_Linker_isDoubled v [.ref (sm_a v 1), .int x0] M o r) (hsz : ls.size = nL) (hR : rm_Linker_isDoubled.frames + 1 ≤ R.frames ∧ 8 + (4 + 11) + rm_Linker_isDoubled.locals ≤ R.locals) (hcs : cells + 0 ≤ R.cells ∧ slots + 0 ≤ R.slots) (hW : (rest.map fun v => v.category).sum ≤ 8) (hdg : decode cc pc = .ok (.invokevirtual 100, 3))
    (kk : W p l e R s m args below meth c H locs cells slots Q (F0 m (pc + 3) ls (.int r :: rest))) : W p l e R s m args below meth c H locs cells slots Q (F0 m pc ls (.int x0 :: .ref (sm_a v 1) :: rest)) :=
  sm_calli0 (va_runV (C := R_Linker) (As := [.int x0]) (rest := rest) hC hM (cwV 1 hC.2.2.2.2 (sm_good (sm_inV aw_490 aw_492 as_8 aw_2 aw_493)) rfl rfl rfl (by decide +kernel) hR) (sm_preV hK hG (by decide) rfl rfl) rfl rfl hsz rfl (lv_room hW) hdg hcs) kk
abbrev w_Linker_leastDoubledName : List Cond := Cond.code y_Linker_leastDoubledName b_Linker_leastDoubledName 2 (some .int) :: sm_AW
abbrev rm_Linker_leastDoubledName : Room := { frames := 2, cells := 0, slots := 0, locals := 46 }
def g_Linker_leastDoubledName_2 (M : sm_M) (rec2 : Int32 → Option (Int32)) (w1 : Int32) : Option (Int32) :=
(if (16 : Int32) ≤ w1 then
(some (-1 : Int32))
else
sm_b1 (f_Linker_isDoubled M w1) fun r10_3 =>
(if r10_3 = 0 then
rec2 (w1 + (1 : Int32))
else
(some w1)))
def f_Linker_leastDoubledName (M : sm_M) : Option (Int32) :=
sm_lp1 (g_Linker_leastDoubledName_2 M) 1100 (0 : Int32)
set_option maxHeartbeats 4000000 in
set_option maxRecDepth 100000 in
theorem lw_Linker_leastDoubledName_2 {p : Program} {l : Launch} {e : Env} {s : State} {m : MethodId} {args : Array Value} {below : List Frame} {meth : Method} {c : Code} {v : sm_V} {o : sm_O} {r : Int32} (hC : CallFix p m c b_Linker_leastDoubledName 2 s args w_Linker_leastDoubledName R_Linker) (hr : meth.sig.returnType = some .int) (hlk : meth.locks = false) (hK : sm_K v s) (M : sm_M) (hG : sm_G v M o s s.heap []) :
    ∀ (n : Nat) (w1 : Int32) (ls : Array Slot), lv_has ls 2 [(1, .int w1), (0, .ref (sm_a v 1))] → sm_lp1 (g_Linker_leastDoubledName_2 M) n w1 = some r → W p l e rm_Linker_leastDoubledName s m args below meth c s.heap [] 0 0 (MQ below (sm_Qi0 r) args s 0 0 (fun _ => False)) (F0 m 2 ls []) := by
  have hx := hC.1
  have hb := hC.2.1
  intro n
  induction n with
  | zero =>
    intro w1 ls hl hf
    cases hf
  | succ n ih =>
    intro w1 ls hl hf
    have hf : g_Linker_leastDoubledName_2 M (sm_lp1 (g_Linker_leastDoubledName_2 M) n) w1 = some r := hf
    unfold g_Linker_leastDoubledName_2 at hf
    refine lv_iload_n hx hb d_Linker_leastDoubledName_2 rfl (lv_at hl 0 rfl) ?_
    refine lv_bipush (v := 16) hx hb d_Linker_leastDoubledName_3 (by decide) ?_
    refine lv_icmp_ge hx hb d_Linker_leastDoubledName_5 rfl (fun h5_1 => ?_) (fun h5_1 => ?_)
    · have hf := sm_t h5_1 hf
      refine lv_iconst (v := -1) hx hb d_Linker_leastDoubledName_24 (by decide) ?_
      obtain rfl := Option.some.inj hf
      exact sm_iret0 hC hr hlk d_Linker_leastDoubledName_25
    · have hf := sm_f h5_1 hf
      refine lv_aload_n hx hb d_Linker_leastDoubledName_8 rfl (lv_at hl 1 rfl) ?_
      refine lv_iload_n hx hb d_Linker_leastDoubledName_9 rfl (lv_at hl 0 rfl) ?_
      obtain ⟨r10_3, hc10_2, hf⟩ := sm_of_b1 hf
      refine ca_Linker_100 hC hK hG (c_Linker_isDoubled hc10_2) hl.1 ⟨Nat.le_of_ble_eq_true rfl, Nat.le_of_ble_eq_true rfl⟩ ⟨Nat.zero_le _, Nat.zero_le _⟩ (Nat.le_of_ble_eq_true rfl) d_Linker_leastDoubledName_10 ?_
      refine lv_if_eq hx hb d_Linker_leastDoubledName_13 rfl (fun h13_5 => ?_) (fun h13_5 => ?_)
      · have hf := sm_t h13_5 hf
        refine lv_iinc (v := w1 + (1 : Int32)) (k := 0) hx hb d_Linker_leastDoubledName_18 hl rfl rfl (Nat.le_of_ble_eq_true rfl) rfl (fun ls hl => ?_)
        have hl : lv_has ls 2 [(1, .int (w1 + (1 : Int32))), (0, .ref (sm_a v 1))] := hl
        refine lv_goto hx hb d_Linker_leastDoubledName_21 rfl ?_
        exact ih _ ls hl hf
      · have hf := sm_f h13_5 hf
        refine lv_iload_n hx hb d_Linker_leastDoubledName_16 rfl (lv_at hl 0 rfl) ?_
        obtain rfl := Option.some.inj hf
        exact sm_iret0 hC hr hlk d_Linker_leastDoubledName_17
set_option maxHeartbeats 4000000 in
set_option maxRecDepth 100000 in
theorem c_Linker_leastDoubledName {l : Launch} {v : sm_V} {o : sm_O} {M : sm_M} {r : Int32} (hf : f_Linker_leastDoubledName M = some r) : sm_Ri l y_Linker_leastDoubledName w_Linker_leastDoubledName rm_Linker_leastDoubledName v [.ref (sm_a v 1)] M o r  := by
  refine sm_met (cc := b_Linker_leastDoubledName) (nL := 2) (ret := some .int) (plainFor_of_name (by decide)) rfl (Nat.le_of_ble_eq_true rfl) (fun p e s m args below meth c hC hr hlk hK hG ls hl => ?_)
  have hx := hC.1
  have hb := hC.2.1
  have hl : lv_has ls 2 [(0, .ref (sm_a v 1))] := hl
  unfold f_Linker_leastDoubledName at hf
  refine lv_iconst (v := 0) hx hb d_Linker_leastDoubledName_0 (by decide) ?_
  refine lv_istore_n hx hb d_Linker_leastDoubledName_1 rfl hl (Nat.le_of_ble_eq_true rfl) rfl (fun ls hl => ?_)
  have hl : lv_has ls 2 [(1, .int (0 : Int32)), (0, .ref (sm_a v 1))] := hl
  exact lw_Linker_leastDoubledName_2 hC hr hlk hK M hG 1100 _ ls hl hf
theorem ca_Linker_131 {p : Program} {l : Launch} {e : Env} {R : Room} {s : State} {m : MethodId} {args : Array Value} {below : List Frame} {meth : Method} {c : Code} {H : Heap} {locs : List Loc} {cells slots : Nat} {Q : State → Prop} {cc : ByteArray} {nL pc : Nat} {ls : Array Slot} {rest : List Value} {w0 : Cond} {v : sm_V} {M : sm_M} {o : sm_O} {x0 : Int32} {r : Int32} (hC : CallFix p m c cc nL s args (w0 :: sm_AW) R_Linker) (hK : sm_K v s) (hG : sm_G v M o s H locs) {k : Nat} (hk : sm_isP k) (hM : sm_Ri l y_Part_definitionOf w_Part_definitionOf rm_Part_definitionOf v [.ref (sm_a v k), .int x0] M o r) (hsz : ls.size = nL) (hR : rm_Part_definitionOf.frames + 1 ≤ R.frames ∧ 8 + (3 + 11) + rm_Part_definitionOf.locals ≤ R.locals) (hcs : cells + 0 ≤ R.cells ∧ slots + 0 ≤ R.slots) (hW : (rest.map fun v => v.category).sum ≤ 8) (hdg : decode cc pc = .ok (.invokevirtual 131, 3))
    (kk : W p l e R s m args below meth c H locs cells slots Q (F0 m (pc + 3) ls (.int r :: rest))) : W p l e R s m args below meth c H locs cells slots Q (F0 m pc ls (.int x0 :: .ref (sm_a v k) :: rest)) :=
  sm_calli0 (va_runV (C := R_Part) (As := [.int x0]) (rest := rest) hC hM (cwV 1 hC.2.2.2.2 (sm_good (sm_inV aw_506 aw_507 aw_508 aw_3 aw_509)) rfl rfl rfl (by decide +kernel) hR) (sm_preV hK hG (sm_p hk).1 (sm_p hk).2 rfl) rfl rfl hsz rfl (lv_room hW) hdg hcs) kk
abbrev w_Linker_addressFor : List Cond := Cond.code y_Linker_addressFor b_Linker_addressFor 4 (some .int) :: sm_AW
abbrev rm_Linker_addressFor : Room := { frames := 2, cells := 0, slots := 0, locals := 45 }
def f_Linker_addressFor (M : sm_M) (a0 : Int32) (a1 : Int32) : Option (Int32) :=
sm_gd a0 4 (
sm_nm (3 + 14 * Int32.toNatClampNeg a0) fun k5_2 =>
sm_b1 (f_Part_definitionOf M k5_2 a1) fun r7_4 =>
(if r7_4 = (-1 : Int32) then
sm_gd a1 16 (
(some (M 60 (Int32.toNatClampNeg a1))))
else
sm_b1 (f_Linker_definedAddress M a0 r7_4) fun r28_8 =>
(some r28_8)))
set_option maxHeartbeats 4000000 in
set_option maxRecDepth 100000 in
theorem c_Linker_addressFor {l : Launch} {v : sm_V} {o : sm_O} {M : sm_M} {a0 : Int32} {a1 : Int32} {r : Int32} (hf : f_Linker_addressFor M a0 a1 = some r) : sm_Ri l y_Linker_addressFor w_Linker_addressFor rm_Linker_addressFor v [.ref (sm_a v 1), .int a0, .int a1] M o r  := by
  refine sm_met (cc := b_Linker_addressFor) (nL := 4) (ret := some .int) (plainFor_of_name (by decide)) rfl (Nat.le_of_ble_eq_true rfl) (fun p e s m args below meth c hC hr hlk hK hG ls hl => ?_)
  have hx := hC.1
  have hb := hC.2.1
  have hl : lv_has ls 4 [(0, .ref (sm_a v 1)), (1, .int a0), (2, .int a1)] := hl
  unfold f_Linker_addressFor at hf
  refine lv_aload_n hx hb d_Linker_addressFor_0 rfl (lv_at hl 0 rfl) ?_
  refine gf_Linker_11 hC hK hG d_Linker_addressFor_1 ?_
  refine lv_iload_n hx hb d_Linker_addressFor_4 rfl (lv_at hl 1 rfl) ?_
  obtain ⟨h5_1, hf⟩ := sm_of_gd hf
  refine sm_aald hC hK hG h5_1 d_Linker_addressFor_5 (fun k5_2 ek5_2 hk5_2 => ?_)
  have hf := sm_of ek5_2 hf
  refine lv_iload_n hx hb d_Linker_addressFor_6 rfl (lv_at hl 2 rfl) ?_
  obtain ⟨r7_4, hc7_3, hf⟩ := sm_of_b1 hf
  refine ca_Linker_131 hC hK hG hk5_2 (c_Part_definitionOf hk5_2 hc7_3) hl.1 ⟨Nat.le_of_ble_eq_true rfl, Nat.le_of_ble_eq_true rfl⟩ ⟨Nat.zero_le _, Nat.zero_le _⟩ (Nat.le_of_ble_eq_true rfl) d_Linker_addressFor_7 ?_
  refine lv_istore_n hx hb d_Linker_addressFor_10 rfl hl (Nat.le_of_ble_eq_true rfl) rfl (fun ls hl => ?_)
  have hl : lv_has ls 4 [(3, .int r7_4), (0, .ref (sm_a v 1)), (1, .int a0), (2, .int a1)] := hl
  refine lv_iload_n hx hb d_Linker_addressFor_11 rfl (lv_at hl 0 rfl) ?_
  refine lv_iconst (v := -1) hx hb d_Linker_addressFor_12 (by decide) ?_
  refine lv_icmp_ne hx hb d_Linker_addressFor_13 rfl (fun h13_6 => ?_) (fun h13_6 => ?_)
  · have hf := sm_f h13_6 hf
    refine lv_aload_n hx hb d_Linker_addressFor_25 rfl (lv_at hl 1 rfl) ?_
    refine lv_iload_n hx hb d_Linker_addressFor_26 rfl (lv_at hl 2 rfl) ?_
    refine lv_iload_n hx hb d_Linker_addressFor_27 rfl (lv_at hl 0 rfl) ?_
    obtain ⟨r28_8, hc28_7, hf⟩ := sm_of_b1 hf
    refine ca_Linker_87 hC hK hG (c_Linker_definedAddress hc28_7) hl.1 ⟨Nat.le_of_ble_eq_true rfl, Nat.le_of_ble_eq_true rfl⟩ ⟨Nat.zero_le _, Nat.zero_le _⟩ (Nat.le_of_ble_eq_true rfl) d_Linker_addressFor_28 ?_
    obtain rfl := Option.some.inj hf
    exact sm_iret0 hC hr hlk d_Linker_addressFor_31
  · have hf := sm_t h13_6 hf
    refine lv_aload_n hx hb d_Linker_addressFor_16 rfl (lv_at hl 1 rfl) ?_
    refine gf_Linker_22 hC hK hG d_Linker_addressFor_17 ?_
    refine lv_iload_n hx hb d_Linker_addressFor_20 rfl (lv_at hl 3 rfl) ?_
    obtain ⟨h21_10, hf⟩ := sm_of_gd hf
    refine sm_iald hC hK hG (by decide) rfl h21_10 d_Linker_addressFor_21 ?_
    refine lv_goto hx hb d_Linker_addressFor_22 rfl ?_
    obtain rfl := Option.some.inj hf
    exact sm_iret0 hC hr hlk d_Linker_addressFor_31
theorem ca_Linker_113 {p : Program} {l : Launch} {e : Env} {R : Room} {s : State} {m : MethodId} {args : Array Value} {below : List Frame} {meth : Method} {c : Code} {H : Heap} {locs : List Loc} {cells slots : Nat} {Q : State → Prop} {cc : ByteArray} {nL pc : Nat} {ls : Array Slot} {rest : List Value} {w0 : Cond} {v : sm_V} {M : sm_M} {o : sm_O} {x0 : Int32} {x1 : Int32} {r : Int32} (hC : CallFix p m c cc nL s args (w0 :: sm_AW) R_Linker) (hK : sm_K v s) (hG : sm_G v M o s H locs) (hM : sm_Ri l y_Linker_addressFor w_Linker_addressFor rm_Linker_addressFor v [.ref (sm_a v 1), .int x0, .int x1] M o r) (hsz : ls.size = nL) (hR : rm_Linker_addressFor.frames + 1 ≤ R.frames ∧ 8 + (4 + 11) + rm_Linker_addressFor.locals ≤ R.locals) (hcs : cells + 0 ≤ R.cells ∧ slots + 0 ≤ R.slots) (hW : (rest.map fun v => v.category).sum ≤ 8) (hdg : decode cc pc = .ok (.invokevirtual 113, 3))
    (kk : W p l e R s m args below meth c H locs cells slots Q (F0 m (pc + 3) ls (.int r :: rest))) : W p l e R s m args below meth c H locs cells slots Q (F0 m pc ls (.int x1 :: .int x0 :: .ref (sm_a v 1) :: rest)) :=
  sm_calli0 (va_runV (C := R_Linker) (As := [.int x0, .int x1]) (rest := rest) hC hM (cwV 2 hC.2.2.2.2 (sm_good (sm_inV aw_502 aw_504 as_10 aw_2 aw_505)) rfl rfl rfl (by decide +kernel) hR) (sm_preV hK hG (by decide) rfl rfl) rfl rfl hsz rfl (lv_room hW) hdg hcs) kk
abbrev w_Linker_firstNamelessFix : List Cond := Cond.code y_Linker_firstNamelessFix b_Linker_firstNamelessFix 3 (some .int) :: sm_AW
abbrev rm_Linker_firstNamelessFix : Room := { frames := 3, cells := 0, slots := 0, locals := 68 }
def g_Linker_firstNamelessFix_9 (M : sm_M) (w1 : Int32) (rec2 : Int32 → Option (Int32)) (rec9 : Int32 → Option (Int32)) (w2 : Int32) : Option (Int32) :=
sm_gd w1 4 (
sm_nm (3 + 14 * Int32.toNatClampNeg w1) fun k15_3 =>
(if (M k15_3 12) ≤ w2 then
rec2 (w1 + (1 : Int32))
else
sm_gd w1 4 (
sm_nm (3 + 14 * Int32.toNatClampNeg w1) fun k29_6 =>
sm_gd w2 16 (
sm_b1 (f_Linker_addressFor M w1 (M (k29_6 + 12) (Int32.toNatClampNeg w2))) fun r35_9 =>
(if r35_9 = (-1 : Int32) then
(some (((100 : Int32) * w1) + w2))
else
rec9 (w2 + (1 : Int32)))))))
def g_Linker_firstNamelessFix_2 (M : sm_M) (rec2 : Int32 → Option (Int32)) (w1 : Int32) : Option (Int32) :=
(if (4 : Int32) ≤ w1 then
(some (-1 : Int32))
else
sm_lp1 (g_Linker_firstNamelessFix_9 M w1 rec2) 1100 (0 : Int32))
def f_Linker_firstNamelessFix (M : sm_M) : Option (Int32) :=
sm_lp1 (g_Linker_firstNamelessFix_2 M) 1100 (0 : Int32)
set_option maxHeartbeats 4000000 in
set_option maxRecDepth 100000 in
theorem lw_Linker_firstNamelessFix_9 {p : Program} {l : Launch} {e : Env} {s : State} {m : MethodId} {args : Array Value} {below : List Frame} {meth : Method} {c : Code} {v : sm_V} {o : sm_O} {r : Int32} (hC : CallFix p m c b_Linker_firstNamelessFix 3 s args w_Linker_firstNamelessFix R_Linker) (hr : meth.sig.returnType = some .int) (hlk : meth.locks = false) (hK : sm_K v s) (M : sm_M) (w1 : Int32) (hG : sm_G v M o s s.heap []) (rec2 : Int32 → Option (Int32)) (hout2 : ∀ (w1 : Int32) (ls : Array Slot), lv_has ls 3 [(1, .int w1), (0, .ref (sm_a v 1))] → rec2 w1 = some r → W p l e rm_Linker_firstNamelessFix s m args below meth c s.heap [] 0 0 (MQ below (sm_Qi0 r) args s 0 0 (fun _ => False)) (F0 m 2 ls [])) :
    ∀ (n : Nat) (w2 : Int32) (ls : Array Slot), lv_has ls 3 [(2, .int w2), (1, .int w1), (0, .ref (sm_a v 1))] → sm_lp1 (g_Linker_firstNamelessFix_9 M w1 rec2) n w2 = some r → W p l e rm_Linker_firstNamelessFix s m args below meth c s.heap [] 0 0 (MQ below (sm_Qi0 r) args s 0 0 (fun _ => False)) (F0 m 9 ls []) := by
  have hx := hC.1
  have hb := hC.2.1
  intro n
  induction n with
  | zero =>
    intro w2 ls hl hf
    cases hf
  | succ n ih =>
    intro w2 ls hl hf
    have hf : g_Linker_firstNamelessFix_9 M w1 rec2 (sm_lp1 (g_Linker_firstNamelessFix_9 M w1 rec2) n) w2 = some r := hf
    unfold g_Linker_firstNamelessFix_9 at hf
    refine lv_iload_n hx hb d_Linker_firstNamelessFix_9 rfl (lv_at hl 0 rfl) ?_
    refine lv_aload_n hx hb d_Linker_firstNamelessFix_10 rfl (lv_at hl 2 rfl) ?_
    refine gf_Linker_11 hC hK hG d_Linker_firstNamelessFix_11 ?_
    refine lv_iload_n hx hb d_Linker_firstNamelessFix_14 rfl (lv_at hl 1 rfl) ?_
    obtain ⟨h15_2, hf⟩ := sm_of_gd hf
    refine sm_aald hC hK hG h15_2 d_Linker_firstNamelessFix_15 (fun k15_3 ek15_3 hk15_3 => ?_)
    have hf := sm_of ek15_3 hf
    refine gf_Linker_107 hC hK hG hk15_3 d_Linker_firstNamelessFix_16 ?_
    refine lv_icmp_ge hx hb d_Linker_firstNamelessFix_19 rfl (fun h19_4 => ?_) (fun h19_4 => ?_)
    · have hf := sm_t h19_4 hf
      refine lv_iinc (v := w1 + (1 : Int32)) (k := 1) hx hb d_Linker_firstNamelessFix_55 hl rfl rfl (Nat.le_of_ble_eq_true rfl) rfl (fun ls hl => ?_)
      have hl : lv_has ls 3 [(1, .int (w1 + (1 : Int32))), (2, .int w2), (0, .ref (sm_a v 1))] := hl
      refine lv_goto hx hb d_Linker_firstNamelessFix_58 rfl ?_
      exact hout2 _ ls (lv_sub hl [0, 2] rfl) hf
    · have hf := sm_f h19_4 hf
      refine lv_aload_n hx hb d_Linker_firstNamelessFix_22 rfl (lv_at hl 2 rfl) ?_
      refine lv_iload_n hx hb d_Linker_firstNamelessFix_23 rfl (lv_at hl 1 rfl) ?_
      refine lv_aload_n hx hb d_Linker_firstNamelessFix_24 rfl (lv_at hl 2 rfl) ?_
      refine gf_Linker_11 hC hK hG d_Linker_firstNamelessFix_25 ?_
      refine lv_iload_n hx hb d_Linker_firstNamelessFix_28 rfl (lv_at hl 1 rfl) ?_
      obtain ⟨h29_5, hf⟩ := sm_of_gd hf
      refine sm_aald hC hK hG h29_5 d_Linker_firstNamelessFix_29 (fun k29_6 ek29_6 hk29_6 => ?_)
      have hf := sm_of ek29_6 hf
      refine gf_Linker_110 hC hK hG hk29_6 d_Linker_firstNamelessFix_30 ?_
      refine lv_iload_n hx hb d_Linker_firstNamelessFix_33 rfl (lv_at hl 0 rfl) ?_
      obtain ⟨h34_7, hf⟩ := sm_of_gd hf
      refine sm_iald hC hK hG (sm_p12 hk29_6).1 (sm_p12 hk29_6).2 h34_7 d_Linker_firstNamelessFix_34 ?_
      obtain ⟨r35_9, hc35_8, hf⟩ := sm_of_b1 hf
      refine ca_Linker_113 hC hK hG (c_Linker_addressFor hc35_8) hl.1 ⟨Nat.le_of_ble_eq_true rfl, Nat.le_of_ble_eq_true rfl⟩ ⟨Nat.zero_le _, Nat.zero_le _⟩ (Nat.le_of_ble_eq_true rfl) d_Linker_firstNamelessFix_35 ?_
      refine lv_iconst (v := -1) hx hb d_Linker_firstNamelessFix_38 (by decide) ?_
      refine lv_icmp_ne hx hb d_Linker_firstNamelessFix_39 rfl (fun h39_11 => ?_) (fun h39_11 => ?_)
      · have hf := sm_f h39_11 hf
        refine lv_iinc (v := w2 + (1 : Int32)) (k := 0) hx hb d_Linker_firstNamelessFix_49 hl rfl rfl (Nat.le_of_ble_eq_true rfl) rfl (fun ls hl => ?_)
        have hl : lv_has ls 3 [(2, .int (w2 + (1 : Int32))), (1, .int w1), (0, .ref (sm_a v 1))] := hl
        refine lv_goto hx hb d_Linker_firstNamelessFix_52 rfl ?_
        exact ih _ ls hl hf
      · have hf := sm_t h39_11 hf
        refine lv_bipush (v := 100) hx hb d_Linker_firstNamelessFix_42 (by decide) ?_
        refine lv_iload_n hx hb d_Linker_firstNamelessFix_44 rfl (lv_at hl 1 rfl) ?_
        refine lv_imul hx hb d_Linker_firstNamelessFix_45 ?_
        refine lv_iload_n hx hb d_Linker_firstNamelessFix_46 rfl (lv_at hl 0 rfl) ?_
        refine lv_iadd hx hb d_Linker_firstNamelessFix_47 ?_
        obtain rfl := Option.some.inj hf
        exact sm_iret0 hC hr hlk d_Linker_firstNamelessFix_48
set_option maxHeartbeats 4000000 in
set_option maxRecDepth 100000 in
theorem lw_Linker_firstNamelessFix_2 {p : Program} {l : Launch} {e : Env} {s : State} {m : MethodId} {args : Array Value} {below : List Frame} {meth : Method} {c : Code} {v : sm_V} {o : sm_O} {r : Int32} (hC : CallFix p m c b_Linker_firstNamelessFix 3 s args w_Linker_firstNamelessFix R_Linker) (hr : meth.sig.returnType = some .int) (hlk : meth.locks = false) (hK : sm_K v s) (M : sm_M) (hG : sm_G v M o s s.heap []) :
    ∀ (n : Nat) (w1 : Int32) (ls : Array Slot), lv_has ls 3 [(1, .int w1), (0, .ref (sm_a v 1))] → sm_lp1 (g_Linker_firstNamelessFix_2 M) n w1 = some r → W p l e rm_Linker_firstNamelessFix s m args below meth c s.heap [] 0 0 (MQ below (sm_Qi0 r) args s 0 0 (fun _ => False)) (F0 m 2 ls []) := by
  have hx := hC.1
  have hb := hC.2.1
  intro n
  induction n with
  | zero =>
    intro w1 ls hl hf
    cases hf
  | succ n ih =>
    intro w1 ls hl hf
    have hf : g_Linker_firstNamelessFix_2 M (sm_lp1 (g_Linker_firstNamelessFix_2 M) n) w1 = some r := hf
    unfold g_Linker_firstNamelessFix_2 at hf
    refine lv_iload_n hx hb d_Linker_firstNamelessFix_2 rfl (lv_at hl 0 rfl) ?_
    refine lv_iconst (v := 4) hx hb d_Linker_firstNamelessFix_3 (by decide) ?_
    refine lv_icmp_ge hx hb d_Linker_firstNamelessFix_4 rfl (fun h4_1 => ?_) (fun h4_1 => ?_)
    · have hf := sm_t h4_1 hf
      refine lv_iconst (v := -1) hx hb d_Linker_firstNamelessFix_61 (by decide) ?_
      obtain rfl := Option.some.inj hf
      exact sm_iret0 hC hr hlk d_Linker_firstNamelessFix_62
    · have hf := sm_f h4_1 hf
      refine lv_iconst (v := 0) hx hb d_Linker_firstNamelessFix_7 (by decide) ?_
      refine lv_istore_n hx hb d_Linker_firstNamelessFix_8 rfl hl (Nat.le_of_ble_eq_true rfl) rfl (fun ls hl => ?_)
      have hl : lv_has ls 3 [(2, .int (0 : Int32)), (1, .int w1), (0, .ref (sm_a v 1))] := hl
      exact lw_Linker_firstNamelessFix_9 hC hr hlk hK M w1 hG _ ih 1100 _ ls hl hf
set_option maxHeartbeats 4000000 in
set_option maxRecDepth 100000 in
theorem c_Linker_firstNamelessFix {l : Launch} {v : sm_V} {o : sm_O} {M : sm_M} {r : Int32} (hf : f_Linker_firstNamelessFix M = some r) : sm_Ri l y_Linker_firstNamelessFix w_Linker_firstNamelessFix rm_Linker_firstNamelessFix v [.ref (sm_a v 1)] M o r  := by
  refine sm_met (cc := b_Linker_firstNamelessFix) (nL := 3) (ret := some .int) (plainFor_of_name (by decide)) rfl (Nat.le_of_ble_eq_true rfl) (fun p e s m args below meth c hC hr hlk hK hG ls hl => ?_)
  have hx := hC.1
  have hb := hC.2.1
  have hl : lv_has ls 3 [(0, .ref (sm_a v 1))] := hl
  unfold f_Linker_firstNamelessFix at hf
  refine lv_iconst (v := 0) hx hb d_Linker_firstNamelessFix_0 (by decide) ?_
  refine lv_istore_n hx hb d_Linker_firstNamelessFix_1 rfl hl (Nat.le_of_ble_eq_true rfl) rfl (fun ls hl => ?_)
  have hl : lv_has ls 3 [(1, .int (0 : Int32)), (0, .ref (sm_a v 1))] := hl
  exact lw_Linker_firstNamelessFix_2 hC hr hlk hK M hG 1100 _ ls hl hf
abbrev w_Linker_fixValue : List Cond := Cond.code y_Linker_fixValue b_Linker_fixValue 3 (some .int) :: sm_AW
abbrev rm_Linker_fixValue : Room := { frames := 3, cells := 0, slots := 0, locals := 68 }
def f_Linker_fixValue (M : sm_M) (a0 : Int32) (a1 : Int32) : Option (Int32) :=
sm_gd a0 4 (
sm_nm (3 + 14 * Int32.toNatClampNeg a0) fun k7_2 =>
sm_gd a1 16 (
sm_b1 (f_Linker_addressFor M a0 (M (k7_2 + 12) (Int32.toNatClampNeg a1))) fun r13_5 =>
sm_gd a0 4 (
sm_nm (3 + 14 * Int32.toNatClampNeg a0) fun k21_8 =>
sm_gd a1 16 (
(some (r13_5 + (M (k21_8 + 13) (Int32.toNatClampNeg a1))))))))
set_option maxHeartbeats 4000000 in
set_option maxRecDepth 100000 in
theorem c_Linker_fixValue {l : Launch} {v : sm_V} {o : sm_O} {M : sm_M} {a0 : Int32} {a1 : Int32} {r : Int32} (hf : f_Linker_fixValue M a0 a1 = some r) : sm_Ri l y_Linker_fixValue w_Linker_fixValue rm_Linker_fixValue v [.ref (sm_a v 1), .int a0, .int a1] M o r  := by
  refine sm_met (cc := b_Linker_fixValue) (nL := 3) (ret := some .int) (plainFor_of_name (by decide)) rfl (Nat.le_of_ble_eq_true rfl) (fun p e s m args below meth c hC hr hlk hK hG ls hl => ?_)
  have hx := hC.1
  have hb := hC.2.1
  have hl : lv_has ls 3 [(0, .ref (sm_a v 1)), (1, .int a0), (2, .int a1)] := hl
  unfold f_Linker_fixValue at hf
  refine lv_aload_n hx hb d_Linker_fixValue_0 rfl (lv_at hl 0 rfl) ?_
  refine lv_iload_n hx hb d_Linker_fixValue_1 rfl (lv_at hl 1 rfl) ?_
  refine lv_aload_n hx hb d_Linker_fixValue_2 rfl (lv_at hl 0 rfl) ?_
  refine gf_Linker_11 hC hK hG d_Linker_fixValue_3 ?_
  refine lv_iload_n hx hb d_Linker_fixValue_6 rfl (lv_at hl 1 rfl) ?_
  obtain ⟨h7_1, hf⟩ := sm_of_gd hf
  refine sm_aald hC hK hG h7_1 d_Linker_fixValue_7 (fun k7_2 ek7_2 hk7_2 => ?_)
  have hf := sm_of ek7_2 hf
  refine gf_Linker_110 hC hK hG hk7_2 d_Linker_fixValue_8 ?_
  refine lv_iload_n hx hb d_Linker_fixValue_11 rfl (lv_at hl 2 rfl) ?_
  obtain ⟨h12_3, hf⟩ := sm_of_gd hf
  refine sm_iald hC hK hG (sm_p12 hk7_2).1 (sm_p12 hk7_2).2 h12_3 d_Linker_fixValue_12 ?_
  obtain ⟨r13_5, hc13_4, hf⟩ := sm_of_b1 hf
  refine ca_Linker_113 hC hK hG (c_Linker_addressFor hc13_4) hl.1 ⟨Nat.le_of_ble_eq_true rfl, Nat.le_of_ble_eq_true rfl⟩ ⟨Nat.zero_le _, Nat.zero_le _⟩ (Nat.le_of_ble_eq_true rfl) d_Linker_fixValue_13 ?_
  refine lv_aload_n hx hb d_Linker_fixValue_16 rfl (lv_at hl 0 rfl) ?_
  refine gf_Linker_11 hC hK hG d_Linker_fixValue_17 ?_
  refine lv_iload_n hx hb d_Linker_fixValue_20 rfl (lv_at hl 1 rfl) ?_
  obtain ⟨h21_7, hf⟩ := sm_of_gd hf
  refine sm_aald hC hK hG h21_7 d_Linker_fixValue_21 (fun k21_8 ek21_8 hk21_8 => ?_)
  have hf := sm_of ek21_8 hf
  refine gf_Linker_150 hC hK hG hk21_8 d_Linker_fixValue_22 ?_
  refine lv_iload_n hx hb d_Linker_fixValue_25 rfl (lv_at hl 2 rfl) ?_
  obtain ⟨h26_9, hf⟩ := sm_of_gd hf
  refine sm_iald hC hK hG (sm_p13 hk21_8).1 (sm_p13 hk21_8).2 h26_9 d_Linker_fixValue_26 ?_
  refine lv_iadd hx hb d_Linker_fixValue_27 ?_
  obtain rfl := Option.some.inj hf
  exact sm_iret0 hC hr hlk d_Linker_fixValue_28
abbrev w_Linker_fixAddress : List Cond := Cond.code y_Linker_fixAddress b_Linker_fixAddress 3 (some .int) :: sm_AW
abbrev rm_Linker_fixAddress : Room := { frames := 1, cells := 0, slots := 0, locals := 23 }
def f_Linker_fixAddress (M : sm_M) (a0 : Int32) (a1 : Int32) : Option (Int32) :=
sm_gd a0 4 (
sm_nm (3 + 14 * Int32.toNatClampNeg a0) fun k7_2 =>
sm_gd a1 16 (
sm_gd a0 4 (
sm_nm (3 + 14 * Int32.toNatClampNeg a0) fun k18_5 =>
sm_gd a1 16 (
sm_b1 (f_Linker_addressOf M a0 (M (k7_2 + 9) (Int32.toNatClampNeg a1)) (M (k18_5 + 10) (Int32.toNatClampNeg a1))) fun r24_8 =>
(some r24_8)))))
set_option maxHeartbeats 4000000 in
set_option maxRecDepth 100000 in
theorem c_Linker_fixAddress {l : Launch} {v : sm_V} {o : sm_O} {M : sm_M} {a0 : Int32} {a1 : Int32} {r : Int32} (hf : f_Linker_fixAddress M a0 a1 = some r) : sm_Ri l y_Linker_fixAddress w_Linker_fixAddress rm_Linker_fixAddress v [.ref (sm_a v 1), .int a0, .int a1] M o r  := by
  refine sm_met (cc := b_Linker_fixAddress) (nL := 3) (ret := some .int) (plainFor_of_name (by decide)) rfl (Nat.le_of_ble_eq_true rfl) (fun p e s m args below meth c hC hr hlk hK hG ls hl => ?_)
  have hx := hC.1
  have hb := hC.2.1
  have hl : lv_has ls 3 [(0, .ref (sm_a v 1)), (1, .int a0), (2, .int a1)] := hl
  unfold f_Linker_fixAddress at hf
  refine lv_aload_n hx hb d_Linker_fixAddress_0 rfl (lv_at hl 0 rfl) ?_
  refine lv_iload_n hx hb d_Linker_fixAddress_1 rfl (lv_at hl 1 rfl) ?_
  refine lv_aload_n hx hb d_Linker_fixAddress_2 rfl (lv_at hl 0 rfl) ?_
  refine gf_Linker_11 hC hK hG d_Linker_fixAddress_3 ?_
  refine lv_iload_n hx hb d_Linker_fixAddress_6 rfl (lv_at hl 1 rfl) ?_
  obtain ⟨h7_1, hf⟩ := sm_of_gd hf
  refine sm_aald hC hK hG h7_1 d_Linker_fixAddress_7 (fun k7_2 ek7_2 hk7_2 => ?_)
  have hf := sm_of ek7_2 hf
  refine gf_Linker_144 hC hK hG hk7_2 d_Linker_fixAddress_8 ?_
  refine lv_iload_n hx hb d_Linker_fixAddress_11 rfl (lv_at hl 2 rfl) ?_
  obtain ⟨h12_3, hf⟩ := sm_of_gd hf
  refine sm_iald hC hK hG (sm_p9 hk7_2).1 (sm_p9 hk7_2).2 h12_3 d_Linker_fixAddress_12 ?_
  refine lv_aload_n hx hb d_Linker_fixAddress_13 rfl (lv_at hl 0 rfl) ?_
  refine gf_Linker_11 hC hK hG d_Linker_fixAddress_14 ?_
  refine lv_iload_n hx hb d_Linker_fixAddress_17 rfl (lv_at hl 1 rfl) ?_
  obtain ⟨h18_4, hf⟩ := sm_of_gd hf
  refine sm_aald hC hK hG h18_4 d_Linker_fixAddress_18 (fun k18_5 ek18_5 hk18_5 => ?_)
  have hf := sm_of ek18_5 hf
  refine gf_Linker_147 hC hK hG hk18_5 d_Linker_fixAddress_19 ?_
  refine lv_iload_n hx hb d_Linker_fixAddress_22 rfl (lv_at hl 2 rfl) ?_
  obtain ⟨h23_6, hf⟩ := sm_of_gd hf
  refine sm_iald hC hK hG (sm_p10 hk18_5).1 (sm_p10 hk18_5).2 h23_6 d_Linker_fixAddress_23 ?_
  obtain ⟨r24_8, hc24_7, hf⟩ := sm_of_b1 hf
  refine ca_Linker_140 hC hK hG (c_Linker_addressOf hc24_7) hl.1 ⟨Nat.le_of_ble_eq_true rfl, Nat.le_of_ble_eq_true rfl⟩ ⟨Nat.zero_le _, Nat.zero_le _⟩ (Nat.le_of_ble_eq_true rfl) d_Linker_fixAddress_24 ?_
  obtain rfl := Option.some.inj hf
  exact sm_iret0 hC hr hlk d_Linker_fixAddress_27
theorem ca_Linker_116 {p : Program} {l : Launch} {e : Env} {R : Room} {s : State} {m : MethodId} {args : Array Value} {below : List Frame} {meth : Method} {c : Code} {H : Heap} {locs : List Loc} {cells slots : Nat} {Q : State → Prop} {cc : ByteArray} {nL pc : Nat} {ls : Array Slot} {rest : List Value} {w0 : Cond} {v : sm_V} {M : sm_M} {o : sm_O} {x0 : Int32} {x1 : Int32} {r : Int32} (hC : CallFix p m c cc nL s args (w0 :: sm_AW) R_Linker) (hK : sm_K v s) (hG : sm_G v M o s H locs) (hM : sm_Ri l y_Linker_fixValue w_Linker_fixValue rm_Linker_fixValue v [.ref (sm_a v 1), .int x0, .int x1] M o r) (hsz : ls.size = nL) (hR : rm_Linker_fixValue.frames + 1 ≤ R.frames ∧ 8 + (3 + 11) + rm_Linker_fixValue.locals ≤ R.locals) (hcs : cells + 0 ≤ R.cells ∧ slots + 0 ≤ R.slots) (hW : (rest.map fun v => v.category).sum ≤ 8) (hdg : decode cc pc = .ok (.invokevirtual 116, 3))
    (kk : W p l e R s m args below meth c H locs cells slots Q (F0 m (pc + 3) ls (.int r :: rest))) : W p l e R s m args below meth c H locs cells slots Q (F0 m pc ls (.int x1 :: .int x0 :: .ref (sm_a v 1) :: rest)) :=
  sm_calli0 (va_runV (C := R_Linker) (As := [.int x0, .int x1]) (rest := rest) hC hM (cwV 2 hC.2.2.2.2 (sm_good (sm_inV aw_514 aw_516 as_12 aw_2 aw_517)) rfl rfl rfl (by decide +kernel) hR) (sm_preV hK hG (by decide) rfl rfl) rfl rfl hsz rfl (lv_room hW) hdg hcs) kk
theorem ca_Linker_119 {p : Program} {l : Launch} {e : Env} {R : Room} {s : State} {m : MethodId} {args : Array Value} {below : List Frame} {meth : Method} {c : Code} {H : Heap} {locs : List Loc} {cells slots : Nat} {Q : State → Prop} {cc : ByteArray} {nL pc : Nat} {ls : Array Slot} {rest : List Value} {w0 : Cond} {v : sm_V} {M : sm_M} {o : sm_O} {x0 : Int32} {x1 : Int32} {r : Int32} (hC : CallFix p m c cc nL s args (w0 :: sm_AW) R_Linker) (hK : sm_K v s) (hG : sm_G v M o s H locs) (hM : sm_Ri l y_Linker_fixAddress w_Linker_fixAddress rm_Linker_fixAddress v [.ref (sm_a v 1), .int x0, .int x1] M o r) (hsz : ls.size = nL) (hR : rm_Linker_fixAddress.frames + 1 ≤ R.frames ∧ 8 + (3 + 11) + rm_Linker_fixAddress.locals ≤ R.locals) (hcs : cells + 0 ≤ R.cells ∧ slots + 0 ≤ R.slots) (hW : (rest.map fun v => v.category).sum ≤ 8) (hdg : decode cc pc = .ok (.invokevirtual 119, 3))
    (kk : W p l e R s m args below meth c H locs cells slots Q (F0 m (pc + 3) ls (.int r :: rest))) : W p l e R s m args below meth c H locs cells slots Q (F0 m pc ls (.int x1 :: .int x0 :: .ref (sm_a v 1) :: rest)) :=
  sm_calli0 (va_runV (C := R_Linker) (As := [.int x0, .int x1]) (rest := rest) hC hM (cwV 2 hC.2.2.2.2 (sm_good (sm_inV aw_518 aw_520 as_13 aw_2 aw_521)) rfl rfl rfl (by decide +kernel) hR) (sm_preV hK hG (by decide) rfl rfl) rfl rfl hsz rfl (lv_room hW) hdg hcs) kk
theorem ca_Linker_125 {p : Program} {l : Launch} {e : Env} {R : Room} {s : State} {m : MethodId} {args : Array Value} {below : List Frame} {meth : Method} {c : Code} {H : Heap} {locs : List Loc} {cells slots : Nat} {Q : State → Prop} {cc : ByteArray} {nL pc : Nat} {ls : Array Slot} {rest : List Value} {w0 : Cond} {v : sm_V} {M : sm_M} {o : sm_O} {x0 : Int32} {x1 : Int32} {r : Int32} (hC : CallFix p m c cc nL s args (w0 :: sm_AW) R_Linker) (hK : sm_K v s) (hG : sm_G v M o s H locs) (hM : sm_Ri l y_Fix_reaches w_Fix_reaches rm_Fix_reaches v [.int x0, .int x1] M o r) (hsz : ls.size = nL) (hR : rm_Fix_reaches.frames + 1 ≤ R.frames ∧ 8 + (3 + 11) + rm_Fix_reaches.locals ≤ R.locals) (hcs : cells + 0 ≤ R.cells ∧ slots + 0 ≤ R.slots) (hW : (rest.map fun v => v.category).sum ≤ 8) (hdg : decode cc pc = .ok (.invokestatic 125, 3))
    (kk : W p l e R s m args below meth c H locs cells slots Q (F0 m (pc + 3) ls (.int r :: rest))) : W p l e R s m args below meth c H locs cells slots Q (F0 m pc ls (.int x1 :: .int x0 :: rest)) :=
  sm_calli0 (va_runS (As := [.int x0, .int x1]) (rest := rest) hC hM (va_cwS 2 hC.2.2.2.2 (sm_good (sm_inT aw_522 aw_523 aw_14 aw_524)) rfl rfl rfl (by decide +kernel) hR) (sm_preS hK hG) rfl rfl hsz rfl (lv_room hW) hdg hcs) kk
abbrev w_Linker_firstFixOutOfReach : List Cond := Cond.code y_Linker_firstFixOutOfReach b_Linker_firstFixOutOfReach 4 (some .int) :: sm_AW
abbrev rm_Linker_firstFixOutOfReach : Room := { frames := 4, cells := 0, slots := 0, locals := 90 }
def g_Linker_firstFixOutOfReach_9 (M : sm_M) (w1 : Int32) (rec2 : Int32 → Option (Int32)) (rec9 : Int32 → Option (Int32)) (w2 : Int32) : Option (Int32) :=
sm_gd w1 4 (
sm_nm (3 + 14 * Int32.toNatClampNeg w1) fun k15_3 =>
(if (M k15_3 12) ≤ w2 then
rec2 (w1 + (1 : Int32))
else
sm_b1 (f_Linker_fixValue M w1 w2) fun r25_6 =>
sm_b1 (f_Linker_fixAddress M w1 w2) fun r31_9 =>
sm_nm (r25_6 - r31_9) fun x35_11 =>
sm_gd w1 4 (
sm_nm (3 + 14 * Int32.toNatClampNeg w1) fun k41_13 =>
sm_gd w2 16 (
sm_b1 (f_Fix_reaches (M (k41_13 + 11) (Int32.toNatClampNeg w2)) x35_11) fun r48_16 =>
(if r48_16 = 0 then
(some (((100 : Int32) * w1) + w2))
else
rec9 (w2 + (1 : Int32)))))))
def g_Linker_firstFixOutOfReach_2 (M : sm_M) (rec2 : Int32 → Option (Int32)) (w1 : Int32) : Option (Int32) :=
(if (4 : Int32) ≤ w1 then
(some (-1 : Int32))
else
sm_lp1 (g_Linker_firstFixOutOfReach_9 M w1 rec2) 1100 (0 : Int32))
def f_Linker_firstFixOutOfReach (M : sm_M) : Option (Int32) :=
sm_lp1 (g_Linker_firstFixOutOfReach_2 M) 1100 (0 : Int32)
set_option maxHeartbeats 4000000 in
set_option maxRecDepth 100000 in
theorem lw_Linker_firstFixOutOfReach_9 {p : Program} {l : Launch} {e : Env} {s : State} {m : MethodId} {args : Array Value} {below : List Frame} {meth : Method} {c : Code} {v : sm_V} {o : sm_O} {r : Int32} (hC : CallFix p m c b_Linker_firstFixOutOfReach 4 s args w_Linker_firstFixOutOfReach R_Linker) (hr : meth.sig.returnType = some .int) (hlk : meth.locks = false) (hK : sm_K v s) (M : sm_M) (w1 : Int32) (hG : sm_G v M o s s.heap []) (rec2 : Int32 → Option (Int32)) (hout2 : ∀ (w1 : Int32) (ls : Array Slot), lv_has ls 4 [(1, .int w1), (0, .ref (sm_a v 1))] → rec2 w1 = some r → W p l e rm_Linker_firstFixOutOfReach s m args below meth c s.heap [] 0 0 (MQ below (sm_Qi0 r) args s 0 0 (fun _ => False)) (F0 m 2 ls [])) :
    ∀ (n : Nat) (w2 : Int32) (ls : Array Slot), lv_has ls 4 [(2, .int w2), (1, .int w1), (0, .ref (sm_a v 1))] → sm_lp1 (g_Linker_firstFixOutOfReach_9 M w1 rec2) n w2 = some r → W p l e rm_Linker_firstFixOutOfReach s m args below meth c s.heap [] 0 0 (MQ below (sm_Qi0 r) args s 0 0 (fun _ => False)) (F0 m 9 ls []) := by
  have hx := hC.1
  have hb := hC.2.1
  intro n
  induction n with
  | zero =>
    intro w2 ls hl hf
    cases hf
  | succ n ih =>
    intro w2 ls hl hf
    have hf : g_Linker_firstFixOutOfReach_9 M w1 rec2 (sm_lp1 (g_Linker_firstFixOutOfReach_9 M w1 rec2) n) w2 = some r := hf
    unfold g_Linker_firstFixOutOfReach_9 at hf
    refine lv_iload_n hx hb d_Linker_firstFixOutOfReach_9 rfl (lv_at hl 0 rfl) ?_
    refine lv_aload_n hx hb d_Linker_firstFixOutOfReach_10 rfl (lv_at hl 2 rfl) ?_
    refine gf_Linker_11 hC hK hG d_Linker_firstFixOutOfReach_11 ?_
    refine lv_iload_n hx hb d_Linker_firstFixOutOfReach_14 rfl (lv_at hl 1 rfl) ?_
    obtain ⟨h15_2, hf⟩ := sm_of_gd hf
    refine sm_aald hC hK hG h15_2 d_Linker_firstFixOutOfReach_15 (fun k15_3 ek15_3 hk15_3 => ?_)
    have hf := sm_of ek15_3 hf
    refine gf_Linker_107 hC hK hG hk15_3 d_Linker_firstFixOutOfReach_16 ?_
    refine lv_icmp_ge hx hb d_Linker_firstFixOutOfReach_19 rfl (fun h19_4 => ?_) (fun h19_4 => ?_)
    · have hf := sm_t h19_4 hf
      refine lv_iinc (v := w1 + (1 : Int32)) (k := 1) hx hb d_Linker_firstFixOutOfReach_67 hl rfl rfl (Nat.le_of_ble_eq_true rfl) rfl (fun ls hl => ?_)
      have hl : lv_has ls 4 [(1, .int (w1 + (1 : Int32))), (2, .int w2), (0, .ref (sm_a v 1))] := hl
      refine lv_goto hx hb d_Linker_firstFixOutOfReach_70 rfl ?_
      exact hout2 _ ls (lv_sub hl [0, 2] rfl) hf
    · have hf := sm_f h19_4 hf
      refine lv_aload_n hx hb d_Linker_firstFixOutOfReach_22 rfl (lv_at hl 2 rfl) ?_
      refine lv_iload_n hx hb d_Linker_firstFixOutOfReach_23 rfl (lv_at hl 1 rfl) ?_
      refine lv_iload_n hx hb d_Linker_firstFixOutOfReach_24 rfl (lv_at hl 0 rfl) ?_
      obtain ⟨r25_6, hc25_5, hf⟩ := sm_of_b1 hf
      refine ca_Linker_116 hC hK hG (c_Linker_fixValue hc25_5) hl.1 ⟨Nat.le_of_ble_eq_true rfl, Nat.le_of_ble_eq_true rfl⟩ ⟨Nat.zero_le _, Nat.zero_le _⟩ (Nat.le_of_ble_eq_true rfl) d_Linker_firstFixOutOfReach_25 ?_
      refine lv_aload_n hx hb d_Linker_firstFixOutOfReach_28 rfl (lv_at hl 2 rfl) ?_
      refine lv_iload_n hx hb d_Linker_firstFixOutOfReach_29 rfl (lv_at hl 1 rfl) ?_
      refine lv_iload_n hx hb d_Linker_firstFixOutOfReach_30 rfl (lv_at hl 0 rfl) ?_
      obtain ⟨r31_9, hc31_8, hf⟩ := sm_of_b1 hf
      refine ca_Linker_119 hC hK hG (c_Linker_fixAddress hc31_8) hl.1 ⟨Nat.le_of_ble_eq_true rfl, Nat.le_of_ble_eq_true rfl⟩ ⟨Nat.zero_le _, Nat.zero_le _⟩ (Nat.le_of_ble_eq_true rfl) d_Linker_firstFixOutOfReach_31 ?_
      refine lv_isub hx hb d_Linker_firstFixOutOfReach_34 ?_
      refine lv_topi (fun x35_11 ex35_11 => ?_)
      have hf := sm_of ex35_11 hf
      refine lv_istore_n hx hb d_Linker_firstFixOutOfReach_35 rfl hl (Nat.le_of_ble_eq_true rfl) rfl (fun ls hl => ?_)
      have hl : lv_has ls 4 [(3, .int x35_11), (2, .int w2), (1, .int w1), (0, .ref (sm_a v 1))] := hl
      refine lv_aload_n hx hb d_Linker_firstFixOutOfReach_36 rfl (lv_at hl 3 rfl) ?_
      refine gf_Linker_11 hC hK hG d_Linker_firstFixOutOfReach_37 ?_
      refine lv_iload_n hx hb d_Linker_firstFixOutOfReach_40 rfl (lv_at hl 2 rfl) ?_
      obtain ⟨h41_12, hf⟩ := sm_of_gd hf
      refine sm_aald hC hK hG h41_12 d_Linker_firstFixOutOfReach_41 (fun k41_13 ek41_13 hk41_13 => ?_)
      have hf := sm_of ek41_13 hf
      refine gf_Linker_122 hC hK hG hk41_13 d_Linker_firstFixOutOfReach_42 ?_
      refine lv_iload_n hx hb d_Linker_firstFixOutOfReach_45 rfl (lv_at hl 1 rfl) ?_
      obtain ⟨h46_14, hf⟩ := sm_of_gd hf
      refine sm_iald hC hK hG (sm_p11 hk41_13).1 (sm_p11 hk41_13).2 h46_14 d_Linker_firstFixOutOfReach_46 ?_
      refine lv_iload_n hx hb d_Linker_firstFixOutOfReach_47 rfl (lv_at hl 0 rfl) ?_
      obtain ⟨r48_16, hc48_15, hf⟩ := sm_of_b1 hf
      refine ca_Linker_125 hC hK hG (c_Fix_reaches hc48_15) hl.1 ⟨Nat.le_of_ble_eq_true rfl, Nat.le_of_ble_eq_true rfl⟩ ⟨Nat.zero_le _, Nat.zero_le _⟩ (Nat.le_of_ble_eq_true rfl) d_Linker_firstFixOutOfReach_48 ?_
      refine lv_if_ne hx hb d_Linker_firstFixOutOfReach_51 rfl (fun h51_18 => ?_) (fun h51_18 => ?_)
      · have hf := sm_f h51_18 hf
        refine lv_iinc (v := w2 + (1 : Int32)) (k := 1) hx hb d_Linker_firstFixOutOfReach_61 hl rfl rfl (Nat.le_of_ble_eq_true rfl) rfl (fun ls hl => ?_)
        have hl : lv_has ls 4 [(2, .int (w2 + (1 : Int32))), (3, .int x35_11), (1, .int w1), (0, .ref (sm_a v 1))] := hl
        refine lv_goto hx hb d_Linker_firstFixOutOfReach_64 rfl ?_
        exact ih _ ls (lv_sub hl [0, 2, 3] rfl) hf
      · have hf := sm_t h51_18 hf
        refine lv_bipush (v := 100) hx hb d_Linker_firstFixOutOfReach_54 (by decide) ?_
        refine lv_iload_n hx hb d_Linker_firstFixOutOfReach_56 rfl (lv_at hl 2 rfl) ?_
        refine lv_imul hx hb d_Linker_firstFixOutOfReach_57 ?_
        refine lv_iload_n hx hb d_Linker_firstFixOutOfReach_58 rfl (lv_at hl 1 rfl) ?_
        refine lv_iadd hx hb d_Linker_firstFixOutOfReach_59 ?_
        obtain rfl := Option.some.inj hf
        exact sm_iret0 hC hr hlk d_Linker_firstFixOutOfReach_60
set_option maxHeartbeats 4000000 in
set_option maxRecDepth 100000 in
theorem lw_Linker_firstFixOutOfReach_2 {p : Program} {l : Launch} {e : Env} {s : State} {m : MethodId} {args : Array Value} {below : List Frame} {meth : Method} {c : Code} {v : sm_V} {o : sm_O} {r : Int32} (hC : CallFix p m c b_Linker_firstFixOutOfReach 4 s args w_Linker_firstFixOutOfReach R_Linker) (hr : meth.sig.returnType = some .int) (hlk : meth.locks = false) (hK : sm_K v s) (M : sm_M) (hG : sm_G v M o s s.heap []) :
    ∀ (n : Nat) (w1 : Int32) (ls : Array Slot), lv_has ls 4 [(1, .int w1), (0, .ref (sm_a v 1))] → sm_lp1 (g_Linker_firstFixOutOfReach_2 M) n w1 = some r → W p l e rm_Linker_firstFixOutOfReach s m args below meth c s.heap [] 0 0 (MQ below (sm_Qi0 r) args s 0 0 (fun _ => False)) (F0 m 2 ls []) := by
  have hx := hC.1
  have hb := hC.2.1
  intro n
  induction n with
  | zero =>
    intro w1 ls hl hf
    cases hf
  | succ n ih =>
    intro w1 ls hl hf
    have hf : g_Linker_firstFixOutOfReach_2 M (sm_lp1 (g_Linker_firstFixOutOfReach_2 M) n) w1 = some r := hf
    unfold g_Linker_firstFixOutOfReach_2 at hf
    refine lv_iload_n hx hb d_Linker_firstFixOutOfReach_2 rfl (lv_at hl 0 rfl) ?_
    refine lv_iconst (v := 4) hx hb d_Linker_firstFixOutOfReach_3 (by decide) ?_
    refine lv_icmp_ge hx hb d_Linker_firstFixOutOfReach_4 rfl (fun h4_1 => ?_) (fun h4_1 => ?_)
    · have hf := sm_t h4_1 hf
      refine lv_iconst (v := -1) hx hb d_Linker_firstFixOutOfReach_73 (by decide) ?_
      obtain rfl := Option.some.inj hf
      exact sm_iret0 hC hr hlk d_Linker_firstFixOutOfReach_74
    · have hf := sm_f h4_1 hf
      refine lv_iconst (v := 0) hx hb d_Linker_firstFixOutOfReach_7 (by decide) ?_
      refine lv_istore_n hx hb d_Linker_firstFixOutOfReach_8 rfl hl (Nat.le_of_ble_eq_true rfl) rfl (fun ls hl => ?_)
      have hl : lv_has ls 4 [(2, .int (0 : Int32)), (1, .int w1), (0, .ref (sm_a v 1))] := hl
      exact lw_Linker_firstFixOutOfReach_9 hC hr hlk hK M w1 hG _ ih 1100 _ ls hl hf
set_option maxHeartbeats 4000000 in
set_option maxRecDepth 100000 in
theorem c_Linker_firstFixOutOfReach {l : Launch} {v : sm_V} {o : sm_O} {M : sm_M} {r : Int32} (hf : f_Linker_firstFixOutOfReach M = some r) : sm_Ri l y_Linker_firstFixOutOfReach w_Linker_firstFixOutOfReach rm_Linker_firstFixOutOfReach v [.ref (sm_a v 1)] M o r  := by
  refine sm_met (cc := b_Linker_firstFixOutOfReach) (nL := 4) (ret := some .int) (plainFor_of_name (by decide)) rfl (Nat.le_of_ble_eq_true rfl) (fun p e s m args below meth c hC hr hlk hK hG ls hl => ?_)
  have hx := hC.1
  have hb := hC.2.1
  have hl : lv_has ls 4 [(0, .ref (sm_a v 1))] := hl
  unfold f_Linker_firstFixOutOfReach at hf
  refine lv_iconst (v := 0) hx hb d_Linker_firstFixOutOfReach_0 (by decide) ?_
  refine lv_istore_n hx hb d_Linker_firstFixOutOfReach_1 rfl hl (Nat.le_of_ble_eq_true rfl) rfl (fun ls hl => ?_)
  have hl : lv_has ls 4 [(1, .int (0 : Int32)), (0, .ref (sm_a v 1))] := hl
  exact lw_Linker_firstFixOutOfReach_2 hC hr hlk hK M hG 1100 _ ls hl hf
theorem ca_Linker_90 {p : Program} {l : Launch} {e : Env} {R : Room} {s : State} {m : MethodId} {args : Array Value} {below : List Frame} {meth : Method} {c : Code} {H : Heap} {locs : List Loc} {cells slots : Nat} {Q : State → Prop} {cc : ByteArray} {nL pc : Nat} {ls : Array Slot} {rest : List Value} {w0 : Cond} {v : sm_V} {M : sm_M} {o : sm_O} {r : Int32} (hC : CallFix p m c cc nL s args (w0 :: sm_AW) R_Linker) (hK : sm_K v s) (hG : sm_G v M o s H locs) (hM : sm_Ri l y_Linker_leastDoubledName w_Linker_leastDoubledName rm_Linker_leastDoubledName v [.ref (sm_a v 1)] M o r) (hsz : ls.size = nL) (hR : rm_Linker_leastDoubledName.frames + 1 ≤ R.frames ∧ 8 + (2 + 11) + rm_Linker_leastDoubledName.locals ≤ R.locals) (hcs : cells + 0 ≤ R.cells ∧ slots + 0 ≤ R.slots) (hW : (rest.map fun v => v.category).sum ≤ 8) (hdg : decode cc pc = .ok (.invokevirtual 90, 3))
    (kk : W p l e R s m args below meth c H locs cells slots Q (F0 m (pc + 3) ls (.int r :: rest))) : W p l e R s m args below meth c H locs cells slots Q (F0 m pc ls (.ref (sm_a v 1) :: rest)) :=
  sm_calli0 (va_runV (C := R_Linker) (As := []) (rest := rest) hC hM (cwV 0 hC.2.2.2.2 (sm_good (sm_inV aw_486 aw_488 as_7 aw_2 aw_489)) rfl rfl rfl (by decide +kernel) hR) (sm_preV hK hG (by decide) rfl rfl) rfl rfl hsz rfl (lv_room hW) hdg hcs) kk
theorem ca_Linker_94 {p : Program} {l : Launch} {e : Env} {R : Room} {s : State} {m : MethodId} {args : Array Value} {below : List Frame} {meth : Method} {c : Code} {H : Heap} {locs : List Loc} {cells slots : Nat} {Q : State → Prop} {cc : ByteArray} {nL pc : Nat} {ls : Array Slot} {rest : List Value} {w0 : Cond} {v : sm_V} {M : sm_M} {o : sm_O} {r : Int32} (hC : CallFix p m c cc nL s args (w0 :: sm_AW) R_Linker) (hK : sm_K v s) (hG : sm_G v M o s H locs) (hM : sm_Ri l y_Linker_firstNamelessFix w_Linker_firstNamelessFix rm_Linker_firstNamelessFix v [.ref (sm_a v 1)] M o r) (hsz : ls.size = nL) (hR : rm_Linker_firstNamelessFix.frames + 1 ≤ R.frames ∧ 8 + (3 + 11) + rm_Linker_firstNamelessFix.locals ≤ R.locals) (hcs : cells + 0 ≤ R.cells ∧ slots + 0 ≤ R.slots) (hW : (rest.map fun v => v.category).sum ≤ 8) (hdg : decode cc pc = .ok (.invokevirtual 94, 3))
    (kk : W p l e R s m args below meth c H locs cells slots Q (F0 m (pc + 3) ls (.int r :: rest))) : W p l e R s m args below meth c H locs cells slots Q (F0 m pc ls (.ref (sm_a v 1) :: rest)) :=
  sm_calli0 (va_runV (C := R_Linker) (As := []) (rest := rest) hC hM (cwV 0 hC.2.2.2.2 (sm_good (sm_inV aw_498 aw_500 as_9 aw_2 aw_501)) rfl rfl rfl (by decide +kernel) hR) (sm_preV hK hG (by decide) rfl rfl) rfl rfl hsz rfl (lv_room hW) hdg hcs) kk
theorem ca_Linker_97 {p : Program} {l : Launch} {e : Env} {R : Room} {s : State} {m : MethodId} {args : Array Value} {below : List Frame} {meth : Method} {c : Code} {H : Heap} {locs : List Loc} {cells slots : Nat} {Q : State → Prop} {cc : ByteArray} {nL pc : Nat} {ls : Array Slot} {rest : List Value} {w0 : Cond} {v : sm_V} {M : sm_M} {o : sm_O} {r : Int32} (hC : CallFix p m c cc nL s args (w0 :: sm_AW) R_Linker) (hK : sm_K v s) (hG : sm_G v M o s H locs) (hM : sm_Ri l y_Linker_firstFixOutOfReach w_Linker_firstFixOutOfReach rm_Linker_firstFixOutOfReach v [.ref (sm_a v 1)] M o r) (hsz : ls.size = nL) (hR : rm_Linker_firstFixOutOfReach.frames + 1 ≤ R.frames ∧ 8 + (4 + 11) + rm_Linker_firstFixOutOfReach.locals ≤ R.locals) (hcs : cells + 0 ≤ R.cells ∧ slots + 0 ≤ R.slots) (hW : (rest.map fun v => v.category).sum ≤ 8) (hdg : decode cc pc = .ok (.invokevirtual 97, 3))
    (kk : W p l e R s m args below meth c H locs cells slots Q (F0 m (pc + 3) ls (.int r :: rest))) : W p l e R s m args below meth c H locs cells slots Q (F0 m pc ls (.ref (sm_a v 1) :: rest)) :=
  sm_calli0 (va_runV (C := R_Linker) (As := []) (rest := rest) hC hM (cwV 0 hC.2.2.2.2 (sm_good (sm_inV aw_510 aw_512 as_11 aw_2 aw_513)) rfl rfl rfl (by decide +kernel) hR) (sm_preV hK hG (by decide) rfl rfl) rfl rfl hsz rfl (lv_room hW) hdg hcs) kk
abbrev w_Linker_refusalOf : List Cond := Cond.code y_Linker_refusalOf b_Linker_refusalOf 5 (some .int) :: sm_AW
abbrev rm_Linker_refusalOf : Room := { frames := 5, cells := 0, slots := 0, locals := 113 }
def f_Linker_refusalOf (M : sm_M) (a0 : Int32) : Option (Int32) :=
sm_b1 (f_Linker_leastDoubledName M) fun r1_2 =>
(if r1_2 = (-1 : Int32) then
sm_b1 (f_Linker_firstNamelessFix M) fun r17_6 =>
(if r17_6 = (-1 : Int32) then
sm_b1 (f_Linker_firstFixOutOfReach M) fun r33_10 =>
(if r33_10 = (-1 : Int32) then
sm_gd a0 16 (
(if (M 60 (Int32.toNatClampNeg a0)) = (-1 : Int32) then
(some ((-4000 : Int32) - a0))
else
(some (0 : Int32))))
else
(some ((-3000 : Int32) - r33_10)))
else
(some ((-2000 : Int32) - r17_6)))
else
(some ((-1000 : Int32) - r1_2)))
set_option maxHeartbeats 4000000 in
set_option maxRecDepth 100000 in
theorem c_Linker_refusalOf {l : Launch} {v : sm_V} {o : sm_O} {M : sm_M} {a0 : Int32} {r : Int32} (hf : f_Linker_refusalOf M a0 = some r) : sm_Ri l y_Linker_refusalOf w_Linker_refusalOf rm_Linker_refusalOf v [.ref (sm_a v 1), .int a0] M o r  := by
  refine sm_met (cc := b_Linker_refusalOf) (nL := 5) (ret := some .int) (plainFor_of_name (by decide)) rfl (Nat.le_of_ble_eq_true rfl) (fun p e s m args below meth c hC hr hlk hK hG ls hl => ?_)
  have hx := hC.1
  have hb := hC.2.1
  have hl : lv_has ls 5 [(0, .ref (sm_a v 1)), (1, .int a0)] := hl
  unfold f_Linker_refusalOf at hf
  refine lv_aload_n hx hb d_Linker_refusalOf_0 rfl (lv_at hl 0 rfl) ?_
  obtain ⟨r1_2, hc1_1, hf⟩ := sm_of_b1 hf
  refine ca_Linker_90 hC hK hG (c_Linker_leastDoubledName hc1_1) hl.1 ⟨Nat.le_of_ble_eq_true rfl, Nat.le_of_ble_eq_true rfl⟩ ⟨Nat.zero_le _, Nat.zero_le _⟩ (Nat.le_of_ble_eq_true rfl) d_Linker_refusalOf_1 ?_
  refine lv_istore_n hx hb d_Linker_refusalOf_4 rfl hl (Nat.le_of_ble_eq_true rfl) rfl (fun ls hl => ?_)
  have hl : lv_has ls 5 [(2, .int r1_2), (0, .ref (sm_a v 1)), (1, .int a0)] := hl
  refine lv_iload_n hx hb d_Linker_refusalOf_5 rfl (lv_at hl 0 rfl) ?_
  refine lv_iconst (v := -1) hx hb d_Linker_refusalOf_6 (by decide) ?_
  refine lv_icmp_eq hx hb d_Linker_refusalOf_7 rfl (fun h7_4 => ?_) (fun h7_4 => ?_)
  · have hf := sm_t h7_4 hf
    refine lv_aload_n hx hb d_Linker_refusalOf_16 rfl (lv_at hl 1 rfl) ?_
    obtain ⟨r17_6, hc17_5, hf⟩ := sm_of_b1 hf
    refine ca_Linker_94 hC hK hG (c_Linker_firstNamelessFix hc17_5) hl.1 ⟨Nat.le_of_ble_eq_true rfl, Nat.le_of_ble_eq_true rfl⟩ ⟨Nat.zero_le _, Nat.zero_le _⟩ (Nat.le_of_ble_eq_true rfl) d_Linker_refusalOf_17 ?_
    refine lv_istore_n hx hb d_Linker_refusalOf_20 rfl hl (Nat.le_of_ble_eq_true rfl) rfl (fun ls hl => ?_)
    have hl : lv_has ls 5 [(3, .int r17_6), (2, .int r1_2), (0, .ref (sm_a v 1)), (1, .int a0)] := hl
    have hl : lv_has ls 5 [(3, .int r17_6), (0, .ref (sm_a v 1)), (1, .int a0)] := lv_sub hl [0, 2, 3] rfl
    refine lv_iload_n hx hb d_Linker_refusalOf_21 rfl (lv_at hl 0 rfl) ?_
    refine lv_iconst (v := -1) hx hb d_Linker_refusalOf_22 (by decide) ?_
    refine lv_icmp_eq hx hb d_Linker_refusalOf_23 rfl (fun h23_8 => ?_) (fun h23_8 => ?_)
    · have hf := sm_t h23_8 hf
      refine lv_aload_n hx hb d_Linker_refusalOf_32 rfl (lv_at hl 1 rfl) ?_
      obtain ⟨r33_10, hc33_9, hf⟩ := sm_of_b1 hf
      refine ca_Linker_97 hC hK hG (c_Linker_firstFixOutOfReach hc33_9) hl.1 ⟨Nat.le_of_ble_eq_true rfl, Nat.le_of_ble_eq_true rfl⟩ ⟨Nat.zero_le _, Nat.zero_le _⟩ (Nat.le_of_ble_eq_true rfl) d_Linker_refusalOf_33 ?_
      refine lv_istore hx hb d_Linker_refusalOf_36 hl (Nat.le_of_ble_eq_true rfl) rfl (fun ls hl => ?_)
      have hl : lv_has ls 5 [(4, .int r33_10), (3, .int r17_6), (0, .ref (sm_a v 1)), (1, .int a0)] := hl
      have hl : lv_has ls 5 [(4, .int r33_10), (0, .ref (sm_a v 1)), (1, .int a0)] := lv_sub hl [0, 2, 3] rfl
      refine lv_iload hx hb d_Linker_refusalOf_38 (lv_at hl 0 rfl) ?_
      refine lv_iconst (v := -1) hx hb d_Linker_refusalOf_40 (by decide) ?_
      refine lv_icmp_eq hx hb d_Linker_refusalOf_41 rfl (fun h41_12 => ?_) (fun h41_12 => ?_)
      · have hf := sm_t h41_12 hf
        refine lv_aload_n hx hb d_Linker_refusalOf_51 rfl (lv_at hl 1 rfl) ?_
        refine gf_Linker_22 hC hK hG d_Linker_refusalOf_52 ?_
        refine lv_iload_n hx hb d_Linker_refusalOf_55 rfl (lv_at hl 2 rfl) ?_
        obtain ⟨h56_13, hf⟩ := sm_of_gd hf
        refine sm_iald hC hK hG (by decide) rfl h56_13 d_Linker_refusalOf_56 ?_
        refine lv_iconst (v := -1) hx hb d_Linker_refusalOf_57 (by decide) ?_
        refine lv_icmp_ne hx hb d_Linker_refusalOf_58 rfl (fun h58_14 => ?_) (fun h58_14 => ?_)
        · have hf := sm_f h58_14 hf
          refine lv_iconst (v := 0) hx hb d_Linker_refusalOf_69 (by decide) ?_
          obtain rfl := Option.some.inj hf
          exact sm_iret0 hC hr hlk d_Linker_refusalOf_70
        · have hf := sm_t h58_14 hf
          refine lv_sipush (v := -4000) hx hb d_Linker_refusalOf_61 (by decide) ?_
          refine lv_iload_n hx hb d_Linker_refusalOf_64 rfl (lv_at hl 2 rfl) ?_
          refine lv_isub hx hb d_Linker_refusalOf_65 ?_
          refine lv_goto hx hb d_Linker_refusalOf_66 rfl ?_
          obtain rfl := Option.some.inj hf
          exact sm_iret0 hC hr hlk d_Linker_refusalOf_70
      · have hf := sm_f h41_12 hf
        refine lv_sipush (v := -3000) hx hb d_Linker_refusalOf_44 (by decide) ?_
        refine lv_iload hx hb d_Linker_refusalOf_47 (lv_at hl 0 rfl) ?_
        refine lv_isub hx hb d_Linker_refusalOf_49 ?_
        obtain rfl := Option.some.inj hf
        exact sm_iret0 hC hr hlk d_Linker_refusalOf_50
    · have hf := sm_f h23_8 hf
      refine lv_sipush (v := -2000) hx hb d_Linker_refusalOf_26 (by decide) ?_
      refine lv_iload_n hx hb d_Linker_refusalOf_29 rfl (lv_at hl 0 rfl) ?_
      refine lv_isub hx hb d_Linker_refusalOf_30 ?_
      obtain rfl := Option.some.inj hf
      exact sm_iret0 hC hr hlk d_Linker_refusalOf_31
  · have hf := sm_f h7_4 hf
    refine lv_sipush (v := -1000) hx hb d_Linker_refusalOf_10 (by decide) ?_
    refine lv_iload_n hx hb d_Linker_refusalOf_13 rfl (lv_at hl 0 rfl) ?_
    refine lv_isub hx hb d_Linker_refusalOf_14 ?_
    obtain rfl := Option.some.inj hf
    exact sm_iret0 hC hr hlk d_Linker_refusalOf_15
theorem ca_Linker_154 {p : Program} {l : Launch} {e : Env} {R : Room} {s : State} {m : MethodId} {args : Array Value} {below : List Frame} {meth : Method} {c : Code} {H : Heap} {locs : List Loc} {cells slots : Nat} {Q : State → Prop} {cc : ByteArray} {nL pc : Nat} {ls : Array Slot} {rest : List Value} {w0 : Cond} {v : sm_V} {M : sm_M} {o : sm_O} {x0 : Int32} {x1 : Int32} {M' : sm_M} (hC : CallFix p m c cc nL s args (w0 :: sm_AW) R_Linker) (hK : sm_K v s) (hG : sm_G v M o s H locs) (hM : sm_Cv l y_Image_setWord w_Image_setWord rm_Image_setWord v [.ref (sm_a v 62), .int x0, .int x1] M o M') (hsz : ls.size = nL) (hR : rm_Image_setWord.frames + 1 ≤ R.frames ∧ 8 + (3 + 11) + rm_Image_setWord.locals ≤ R.locals) (hcs : cells + 0 ≤ R.cells ∧ slots + 0 ≤ R.slots) (hW : (rest.map fun v => v.category).sum ≤ 8) (hdg : decode cc pc = .ok (.invokevirtual 154, 3))
    (kk : ∀ (H : Heap) (locs : List Loc), sm_G v M' o s H locs → W p l e R s m args below meth c H locs cells slots Q (F0 m (pc + 3) ls (rest))) : W p l e R s m args below meth c H locs cells slots Q (F0 m pc ls (.int x1 :: .int x0 :: .ref (sm_a v 62) :: rest)) :=
  sm_callv (va_runV (C := R_Image) (As := [.int x0, .int x1]) (rest := rest) hC hM (cwV 2 hC.2.2.2.2 (sm_good (sm_inV aw_535 aw_536 aw_537 aw_5 aw_538)) rfl rfl rfl (by decide +kernel) hR) (sm_preV hK hG (by decide) rfl rfl) rfl rfl hsz rfl (lv_room hW) hdg hcs) hG kk
theorem ca_Linker_158 {p : Program} {l : Launch} {e : Env} {R : Room} {s : State} {m : MethodId} {args : Array Value} {below : List Frame} {meth : Method} {c : Code} {H : Heap} {locs : List Loc} {cells slots : Nat} {Q : State → Prop} {cc : ByteArray} {nL pc : Nat} {ls : Array Slot} {rest : List Value} {w0 : Cond} {v : sm_V} {M : sm_M} {o : sm_O} {r : Int32} (hC : CallFix p m c cc nL s args (w0 :: sm_AW) R_Linker) (hK : sm_K v s) (hG : sm_G v M o s H locs) (hM : sm_Ri l y_Image_headerSum w_Image_headerSum rm_Image_headerSum v [.ref (sm_a v 62)] M o r) (hsz : ls.size = nL) (hR : rm_Image_headerSum.frames + 1 ≤ R.frames ∧ 8 + (3 + 11) + rm_Image_headerSum.locals ≤ R.locals) (hcs : cells + 0 ≤ R.cells ∧ slots + 0 ≤ R.slots) (hW : (rest.map fun v => v.category).sum ≤ 8) (hdg : decode cc pc = .ok (.invokevirtual 158, 3))
    (kk : W p l e R s m args below meth c H locs cells slots Q (F0 m (pc + 3) ls (.int r :: rest))) : W p l e R s m args below meth c H locs cells slots Q (F0 m pc ls (.ref (sm_a v 62) :: rest)) :=
  sm_calli0 (va_runV (C := R_Image) (As := []) (rest := rest) hC hM (cwV 0 hC.2.2.2.2 (sm_good (sm_inV aw_539 aw_246 aw_247 aw_5 aw_248)) rfl rfl rfl (by decide +kernel) hR) (sm_preV hK hG (by decide) rfl rfl) rfl rfl hsz rfl (lv_room hW) hdg hcs) kk
abbrev w_Linker_writeHeader : List Cond := Cond.code y_Linker_writeHeader b_Linker_writeHeader 4 (none) :: sm_AW
abbrev rm_Linker_writeHeader : Room := { frames := 3, cells := 0, slots := 0, locals := 64 }
def f_Linker_writeHeader (M : sm_M) (a1 : Int32) : Option (sm_M) :=
sm_nm ((M 1 5) - (M 1 4)) fun x9_1 =>
sm_b1 (f_Image_setWord M (0 : Int32) (1263422796 : Int32)) fun M14_4 =>
sm_b1 (f_Image_setWord M14_4 (4 : Int32) a1) fun M20_7 =>
sm_b1 (f_Image_setWord M20_7 (8 : Int32) (M20_7 1 4)) fun M30_10 =>
sm_b1 (f_Image_setWord M30_10 (12 : Int32) x9_1) fun M37_13 =>
sm_b1 (f_Image_setWord M37_13 (16 : Int32) (36 : Int32)) fun M45_16 =>
sm_b1 (f_Image_setWord M45_16 (20 : Int32) (M45_16 1 6)) fun M55_19 =>
sm_b1 (f_Image_setWord M55_19 (24 : Int32) ((M55_19 1 7) - (M55_19 1 6))) fun M70_22 =>
sm_b1 (f_Image_setWord M70_22 (28 : Int32) ((36 : Int32) + x9_1)) fun M80_25 =>
sm_b1 (f_Image_headerSum M80_25) fun r87_27 =>
sm_b1 (f_Image_setWord M80_25 (32 : Int32) r87_27) fun M90_31 =>
(some M90_31)
set_option maxHeartbeats 4000000 in
set_option maxRecDepth 100000 in
theorem c_Linker_writeHeader {l : Launch} {v : sm_V} {o : sm_O} {M : sm_M} {a1 : Int32} {M' : sm_M} (hf : f_Linker_writeHeader M a1 = some M') : sm_Cv l y_Linker_writeHeader w_Linker_writeHeader rm_Linker_writeHeader v [.ref (sm_a v 1), .ref (sm_a v 62), .int a1] M o M' := by
  refine sm_met (cc := b_Linker_writeHeader) (nL := 4) (ret := none) (plainFor_of_name (by decide)) rfl (Nat.le_of_ble_eq_true rfl) (fun p e s m args below meth c hC hr hlk hK hG ls hl => ?_)
  have hx := hC.1
  have hb := hC.2.1
  have hl : lv_has ls 4 [(0, .ref (sm_a v 1)), (1, .ref (sm_a v 62)), (2, .int a1)] := hl
  unfold f_Linker_writeHeader at hf
  refine lv_aload_n hx hb d_Linker_writeHeader_0 rfl (lv_at hl 0 rfl) ?_
  refine gf_Linker_39 hC hK hG d_Linker_writeHeader_1 ?_
  refine lv_aload_n hx hb d_Linker_writeHeader_4 rfl (lv_at hl 0 rfl) ?_
  refine gf_Linker_43 hC hK hG d_Linker_writeHeader_5 ?_
  refine lv_isub hx hb d_Linker_writeHeader_8 ?_
  refine lv_topi (fun x9_1 ex9_1 => ?_)
  have hf := sm_of ex9_1 hf
  refine lv_istore_n hx hb d_Linker_writeHeader_9 rfl hl (Nat.le_of_ble_eq_true rfl) rfl (fun ls hl => ?_)
  have hl : lv_has ls 4 [(3, .int x9_1), (0, .ref (sm_a v 1)), (1, .ref (sm_a v 62)), (2, .int a1)] := hl
  refine lv_aload_n hx hb d_Linker_writeHeader_10 rfl (lv_at hl 2 rfl) ?_
  refine lv_iconst (v := 0) hx hb d_Linker_writeHeader_11 (by decide) ?_
  refine lv_ldc hx hb hC.2.2.2.1 (hC.2.2.2.2 _ (List.mem_cons_of_mem _ aw_534)) d_Linker_writeHeader_12 ?_
  obtain ⟨M14_4, hc14_2, hf⟩ := sm_of_b1 hf
  refine ca_Linker_154 hC hK hG (c_Image_setWord hc14_2) hl.1 ⟨Nat.le_of_ble_eq_true rfl, Nat.le_of_ble_eq_true rfl⟩ ⟨Nat.zero_le _, Nat.zero_le _⟩ (Nat.le_of_ble_eq_true rfl) d_Linker_writeHeader_14 (fun H locs hG => ?_)
  refine lv_aload_n hx hb d_Linker_writeHeader_17 rfl (lv_at hl 2 rfl) ?_
  refine lv_iconst (v := 4) hx hb d_Linker_writeHeader_18 (by decide) ?_
  refine lv_iload_n hx hb d_Linker_writeHeader_19 rfl (lv_at hl 3 rfl) ?_
  obtain ⟨M20_7, hc20_5, hf⟩ := sm_of_b1 hf
  refine ca_Linker_154 hC hK hG (c_Image_setWord hc20_5) hl.1 ⟨Nat.le_of_ble_eq_true rfl, Nat.le_of_ble_eq_true rfl⟩ ⟨Nat.zero_le _, Nat.zero_le _⟩ (Nat.le_of_ble_eq_true rfl) d_Linker_writeHeader_20 (fun H locs hG => ?_)
  refine lv_aload_n hx hb d_Linker_writeHeader_23 rfl (lv_at hl 2 rfl) ?_
  refine lv_bipush (v := 8) hx hb d_Linker_writeHeader_24 (by decide) ?_
  refine lv_aload_n hx hb d_Linker_writeHeader_26 rfl (lv_at hl 1 rfl) ?_
  refine gf_Linker_43 hC hK hG d_Linker_writeHeader_27 ?_
  obtain ⟨M30_10, hc30_8, hf⟩ := sm_of_b1 hf
  refine ca_Linker_154 hC hK hG (c_Image_setWord hc30_8) hl.1 ⟨Nat.le_of_ble_eq_true rfl, Nat.le_of_ble_eq_true rfl⟩ ⟨Nat.zero_le _, Nat.zero_le _⟩ (Nat.le_of_ble_eq_true rfl) d_Linker_writeHeader_30 (fun H locs hG => ?_)
  refine lv_aload_n hx hb d_Linker_writeHeader_33 rfl (lv_at hl 2 rfl) ?_
  refine lv_bipush (v := 12) hx hb d_Linker_writeHeader_34 (by decide) ?_
  refine lv_iload_n hx hb d_Linker_writeHeader_36 rfl (lv_at hl 0 rfl) ?_
  obtain ⟨M37_13, hc37_11, hf⟩ := sm_of_b1 hf
  refine ca_Linker_154 hC hK hG (c_Image_setWord hc37_11) hl.1 ⟨Nat.le_of_ble_eq_true rfl, Nat.le_of_ble_eq_true rfl⟩ ⟨Nat.zero_le _, Nat.zero_le _⟩ (Nat.le_of_ble_eq_true rfl) d_Linker_writeHeader_37 (fun H locs hG => ?_)
  refine lv_aload_n hx hb d_Linker_writeHeader_40 rfl (lv_at hl 2 rfl) ?_
  refine lv_bipush (v := 16) hx hb d_Linker_writeHeader_41 (by decide) ?_
  refine lv_bipush (v := 36) hx hb d_Linker_writeHeader_43 (by decide) ?_
  obtain ⟨M45_16, hc45_14, hf⟩ := sm_of_b1 hf
  refine ca_Linker_154 hC hK hG (c_Image_setWord hc45_14) hl.1 ⟨Nat.le_of_ble_eq_true rfl, Nat.le_of_ble_eq_true rfl⟩ ⟨Nat.zero_le _, Nat.zero_le _⟩ (Nat.le_of_ble_eq_true rfl) d_Linker_writeHeader_45 (fun H locs hG => ?_)
  refine lv_aload_n hx hb d_Linker_writeHeader_48 rfl (lv_at hl 2 rfl) ?_
  refine lv_bipush (v := 20) hx hb d_Linker_writeHeader_49 (by decide) ?_
  refine lv_aload_n hx hb d_Linker_writeHeader_51 rfl (lv_at hl 1 rfl) ?_
  refine gf_Linker_49 hC hK hG d_Linker_writeHeader_52 ?_
  obtain ⟨M55_19, hc55_17, hf⟩ := sm_of_b1 hf
  refine ca_Linker_154 hC hK hG (c_Image_setWord hc55_17) hl.1 ⟨Nat.le_of_ble_eq_true rfl, Nat.le_of_ble_eq_true rfl⟩ ⟨Nat.zero_le _, Nat.zero_le _⟩ (Nat.le_of_ble_eq_true rfl) d_Linker_writeHeader_55 (fun H locs hG => ?_)
  refine lv_aload_n hx hb d_Linker_writeHeader_58 rfl (lv_at hl 2 rfl) ?_
  refine lv_bipush (v := 24) hx hb d_Linker_writeHeader_59 (by decide) ?_
  refine lv_aload_n hx hb d_Linker_writeHeader_61 rfl (lv_at hl 1 rfl) ?_
  refine gf_Linker_46 hC hK hG d_Linker_writeHeader_62 ?_
  refine lv_aload_n hx hb d_Linker_writeHeader_65 rfl (lv_at hl 1 rfl) ?_
  refine gf_Linker_49 hC hK hG d_Linker_writeHeader_66 ?_
  refine lv_isub hx hb d_Linker_writeHeader_69 ?_
  obtain ⟨M70_22, hc70_20, hf⟩ := sm_of_b1 hf
  refine ca_Linker_154 hC hK hG (c_Image_setWord hc70_20) hl.1 ⟨Nat.le_of_ble_eq_true rfl, Nat.le_of_ble_eq_true rfl⟩ ⟨Nat.zero_le _, Nat.zero_le _⟩ (Nat.le_of_ble_eq_true rfl) d_Linker_writeHeader_70 (fun H locs hG => ?_)
  refine lv_aload_n hx hb d_Linker_writeHeader_73 rfl (lv_at hl 2 rfl) ?_
  refine lv_bipush (v := 28) hx hb d_Linker_writeHeader_74 (by decide) ?_
  refine lv_bipush (v := 36) hx hb d_Linker_writeHeader_76 (by decide) ?_
  refine lv_iload_n hx hb d_Linker_writeHeader_78 rfl (lv_at hl 0 rfl) ?_
  refine lv_iadd hx hb d_Linker_writeHeader_79 ?_
  obtain ⟨M80_25, hc80_23, hf⟩ := sm_of_b1 hf
  refine ca_Linker_154 hC hK hG (c_Image_setWord hc80_23) hl.1 ⟨Nat.le_of_ble_eq_true rfl, Nat.le_of_ble_eq_true rfl⟩ ⟨Nat.zero_le _, Nat.zero_le _⟩ (Nat.le_of_ble_eq_true rfl) d_Linker_writeHeader_80 (fun H locs hG => ?_)
  refine lv_aload_n hx hb d_Linker_writeHeader_83 rfl (lv_at hl 2 rfl) ?_
  refine lv_bipush (v := 32) hx hb d_Linker_writeHeader_84 (by decide) ?_
  refine lv_aload_n hx hb d_Linker_writeHeader_86 rfl (lv_at hl 2 rfl) ?_
  obtain ⟨r87_27, hc87_26, hf⟩ := sm_of_b1 hf
  refine ca_Linker_158 hC hK hG (c_Image_headerSum hc87_26) hl.1 ⟨Nat.le_of_ble_eq_true rfl, Nat.le_of_ble_eq_true rfl⟩ ⟨Nat.zero_le _, Nat.zero_le _⟩ (Nat.le_of_ble_eq_true rfl) d_Linker_writeHeader_87 ?_
  obtain ⟨M90_31, hc90_29, hf⟩ := sm_of_b1 hf
  refine ca_Linker_154 hC hK hG (c_Image_setWord hc90_29) hl.1 ⟨Nat.le_of_ble_eq_true rfl, Nat.le_of_ble_eq_true rfl⟩ ⟨Nat.zero_le _, Nat.zero_le _⟩ (Nat.le_of_ble_eq_true rfl) d_Linker_writeHeader_90 (fun H locs hG => ?_)
  obtain rfl := Option.some.inj hf
  exact sm_vret hC hr hlk hG d_Linker_writeHeader_93
abbrev w_Linker_byteOf : List Cond := Cond.code y_Linker_byteOf b_Linker_byteOf 5 (some .int) :: sm_AW
abbrev rm_Linker_byteOf : Room := { frames := 0, cells := 0, slots := 0, locals := 0 }
def f_Linker_byteOf (M : sm_M) (a0 : Int32) (a1 : Int32) : Option (Int32) :=
sm_nm ((36 : Int32) - (M 1 4)) fun x7_1 =>
sm_nm ((((36 : Int32) + (M 1 5)) - (M 1 4)) - (M 1 6)) fun x25_2 =>
(if a0 = 0 then
(some (a1 + x7_1))
else
(some (a1 + x25_2)))
set_option maxHeartbeats 4000000 in
set_option maxRecDepth 100000 in
theorem c_Linker_byteOf {l : Launch} {v : sm_V} {o : sm_O} {M : sm_M} {a0 : Int32} {a1 : Int32} {r : Int32} (hf : f_Linker_byteOf M a0 a1 = some r) : sm_Ri l y_Linker_byteOf w_Linker_byteOf rm_Linker_byteOf v [.ref (sm_a v 1), .int a0, .int a1] M o r  := by
  refine sm_met (cc := b_Linker_byteOf) (nL := 5) (ret := some .int) (plainFor_of_name (by decide)) rfl (Nat.le_of_ble_eq_true rfl) (fun p e s m args below meth c hC hr hlk hK hG ls hl => ?_)
  have hx := hC.1
  have hb := hC.2.1
  have hl : lv_has ls 5 [(0, .ref (sm_a v 1)), (1, .int a0), (2, .int a1)] := hl
  unfold f_Linker_byteOf at hf
  refine lv_bipush (v := 36) hx hb d_Linker_byteOf_0 (by decide) ?_
  refine lv_aload_n hx hb d_Linker_byteOf_2 rfl (lv_at hl 0 rfl) ?_
  refine gf_Linker_43 hC hK hG d_Linker_byteOf_3 ?_
  refine lv_isub hx hb d_Linker_byteOf_6 ?_
  refine lv_topi (fun x7_1 ex7_1 => ?_)
  have hf := sm_of ex7_1 hf
  refine lv_istore_n hx hb d_Linker_byteOf_7 rfl hl (Nat.le_of_ble_eq_true rfl) rfl (fun ls hl => ?_)
  have hl : lv_has ls 5 [(3, .int x7_1), (0, .ref (sm_a v 1)), (1, .int a0), (2, .int a1)] := hl
  refine lv_bipush (v := 36) hx hb d_Linker_byteOf_8 (by decide) ?_
  refine lv_aload_n hx hb d_Linker_byteOf_10 rfl (lv_at hl 1 rfl) ?_
  refine gf_Linker_39 hC hK hG d_Linker_byteOf_11 ?_
  refine lv_iadd hx hb d_Linker_byteOf_14 ?_
  refine lv_aload_n hx hb d_Linker_byteOf_15 rfl (lv_at hl 1 rfl) ?_
  refine gf_Linker_43 hC hK hG d_Linker_byteOf_16 ?_
  refine lv_isub hx hb d_Linker_byteOf_19 ?_
  refine lv_aload_n hx hb d_Linker_byteOf_20 rfl (lv_at hl 1 rfl) ?_
  refine gf_Linker_49 hC hK hG d_Linker_byteOf_21 ?_
  refine lv_isub hx hb d_Linker_byteOf_24 ?_
  refine lv_topi (fun x25_2 ex25_2 => ?_)
  have hf := sm_of ex25_2 hf
  refine lv_istore hx hb d_Linker_byteOf_25 hl (Nat.le_of_ble_eq_true rfl) rfl (fun ls hl => ?_)
  have hl : lv_has ls 5 [(4, .int x25_2), (3, .int x7_1), (0, .ref (sm_a v 1)), (1, .int a0), (2, .int a1)] := hl
  have hl : lv_has ls 5 [(4, .int x25_2), (3, .int x7_1), (1, .int a0), (2, .int a1)] := lv_sub hl [0, 1, 3, 4] rfl
  refine lv_iload_n hx hb d_Linker_byteOf_27 rfl (lv_at hl 3 rfl) ?_
  refine lv_iload_n hx hb d_Linker_byteOf_28 rfl (lv_at hl 2 rfl) ?_
  refine lv_if_ne hx hb d_Linker_byteOf_29 rfl (fun h29_3 => ?_) (fun h29_3 => ?_)
  · have hf := sm_f h29_3 hf
    refine lv_iload hx hb d_Linker_byteOf_36 (lv_at hl 0 rfl) ?_
    refine lv_iadd hx hb d_Linker_byteOf_38 ?_
    obtain rfl := Option.some.inj hf
    exact sm_iret0 hC hr hlk d_Linker_byteOf_39
  · have hf := sm_t h29_3 hf
    refine lv_iload_n hx hb d_Linker_byteOf_32 rfl (lv_at hl 1 rfl) ?_
    refine lv_goto hx hb d_Linker_byteOf_33 rfl ?_
    refine lv_iadd hx hb d_Linker_byteOf_38 ?_
    obtain rfl := Option.some.inj hf
    exact sm_iret0 hC hr hlk d_Linker_byteOf_39
theorem ca_Linker_161 {p : Program} {l : Launch} {e : Env} {R : Room} {s : State} {m : MethodId} {args : Array Value} {below : List Frame} {meth : Method} {c : Code} {H : Heap} {locs : List Loc} {cells slots : Nat} {Q : State → Prop} {cc : ByteArray} {nL pc : Nat} {ls : Array Slot} {rest : List Value} {w0 : Cond} {v : sm_V} {M : sm_M} {o : sm_O} {x0 : Int32} {x1 : Int32} {r : Int32} (hC : CallFix p m c cc nL s args (w0 :: sm_AW) R_Linker) (hK : sm_K v s) (hG : sm_G v M o s H locs) (hM : sm_Ri l y_Linker_byteOf w_Linker_byteOf rm_Linker_byteOf v [.ref (sm_a v 1), .int x0, .int x1] M o r) (hsz : ls.size = nL) (hR : rm_Linker_byteOf.frames + 1 ≤ R.frames ∧ 8 + (5 + 11) + rm_Linker_byteOf.locals ≤ R.locals) (hcs : cells + 0 ≤ R.cells ∧ slots + 0 ≤ R.slots) (hW : (rest.map fun v => v.category).sum ≤ 8) (hdg : decode cc pc = .ok (.invokevirtual 161, 3))
    (kk : W p l e R s m args below meth c H locs cells slots Q (F0 m (pc + 3) ls (.int r :: rest))) : W p l e R s m args below meth c H locs cells slots Q (F0 m pc ls (.int x1 :: .int x0 :: .ref (sm_a v 1) :: rest)) :=
  sm_calli0 (va_runV (C := R_Linker) (As := [.int x0, .int x1]) (rest := rest) hC hM (cwV 2 hC.2.2.2.2 (sm_good (sm_inV aw_544 aw_546 as_16 aw_2 aw_547)) rfl rfl rfl (by decide +kernel) hR) (sm_preV hK hG (by decide) rfl rfl) rfl rfl hsz rfl (lv_room hW) hdg hcs) kk
abbrev w_Linker_writeSection : List Cond := Cond.code y_Linker_writeSection b_Linker_writeSection 7 (none) :: sm_AW
abbrev rm_Linker_writeSection : Room := { frames := 1, cells := 0, slots := 0, locals := 24 }
def g_Linker_writeSection_29 (w5 : Int32) (w4 : Nat) (rec29 : sm_M → Int32 → Option (sm_M)) (M : sm_M) (w6 : Int32) : Option (sm_M) :=
(if (M w4 1) ≤ w6 then
(some M)
else
sm_gd w6 (sm_ln (w4 + 1)) (
sm_b1 (f_Image_setWord M (w5 + ((4 : Int32) * w6)) (M (w4 + 1) (Int32.toNatClampNeg w6))) fun M55_16 =>
rec29 M55_16 (w6 + (1 : Int32))))
def f_Linker_writeSection (M : sm_M) (a1 : Int32) (a2 : Int32) : Option (sm_M) :=
sm_gd a1 4 (
sm_nm (3 + 14 * Int32.toNatClampNeg a1) fun k5_2 =>
sm_b1 (f_Part_sectionOf M k5_2 a2) fun r7_4 =>
sm_b1 (f_Linker_addressOf M a1 a2 (0 : Int32)) fun r18_7 =>
sm_b1 (f_Linker_byteOf M a2 r18_7) fun r21_10 =>
sm_lp2 (g_Linker_writeSection_29 r21_10 r7_4) 1100 M (0 : Int32))
set_option maxHeartbeats 4000000 in
set_option maxRecDepth 100000 in
theorem lw_Linker_writeSection_29 {p : Program} {l : Launch} {e : Env} {s : State} {m : MethodId} {args : Array Value} {below : List Frame} {meth : Method} {c : Code} {v : sm_V} {o : sm_O} {M' : sm_M} (hC : CallFix p m c b_Linker_writeSection 7 s args w_Linker_writeSection R_Linker) (hr : meth.sig.returnType = none) (hlk : meth.locks = false) (hK : sm_K v s) (w5 : Int32) (w4 : Nat) (hw4 : sm_isS w4) :
    ∀ (n : Nat) (M : sm_M) (w6 : Int32) (H : Heap) (locs : List Loc) (ls : Array Slot), sm_G v M o s H locs → lv_has ls 7 [(6, .int w6), (5, .int w5), (4, .ref (sm_a v w4)), (1, .ref (sm_a v 62))] → sm_lp2 (g_Linker_writeSection_29 w5 w4) n M w6 = some M' → W p l e rm_Linker_writeSection s m args below meth c H locs 0 0 (MQ below (sm_Qv v M' o) args s 0 0 (sm_A v)) (F0 m 29 ls []) := by
  have hx := hC.1
  have hb := hC.2.1
  intro n
  induction n with
  | zero =>
    intro M w6 H locs ls hG hl hf
    cases hf
  | succ n ih =>
    intro M w6 H locs ls hG hl hf
    have hf : g_Linker_writeSection_29 w5 w4 (sm_lp2 (g_Linker_writeSection_29 w5 w4) n) M w6 = some M' := hf
    unfold g_Linker_writeSection_29 at hf
    refine lv_iload hx hb d_Linker_writeSection_29 (lv_at hl 0 rfl) ?_
    refine lv_aload hx hb d_Linker_writeSection_31 (lv_at hl 2 rfl) ?_
    refine gf_Linker_79 hC hK hG hw4 d_Linker_writeSection_33 ?_
    refine lv_icmp_ge hx hb d_Linker_writeSection_36 rfl (fun h36_12 => ?_) (fun h36_12 => ?_)
    · have hf := sm_t h36_12 hf
      obtain rfl := Option.some.inj hf
      exact sm_vret hC hr hlk hG d_Linker_writeSection_64
    · have hf := sm_f h36_12 hf
      refine lv_aload_n hx hb d_Linker_writeSection_39 rfl (lv_at hl 3 rfl) ?_
      refine lv_iload hx hb d_Linker_writeSection_40 (lv_at hl 1 rfl) ?_
      refine lv_iconst (v := 4) hx hb d_Linker_writeSection_42 (by decide) ?_
      refine lv_iload hx hb d_Linker_writeSection_43 (lv_at hl 0 rfl) ?_
      refine lv_imul hx hb d_Linker_writeSection_45 ?_
      refine lv_iadd hx hb d_Linker_writeSection_46 ?_
      refine lv_aload hx hb d_Linker_writeSection_47 (lv_at hl 2 rfl) ?_
      refine gf_Linker_164 hC hK hG hw4 d_Linker_writeSection_49 ?_
      refine lv_iload hx hb d_Linker_writeSection_52 (lv_at hl 0 rfl) ?_
      obtain ⟨h54_13, hf⟩ := sm_of_gd hf
      refine sm_iald hC hK hG (sm_s1 hw4).1 (sm_s1 hw4).2 h54_13 d_Linker_writeSection_54 ?_
      obtain ⟨M55_16, hc55_14, hf⟩ := sm_of_b1 hf
      refine ca_Linker_154 hC hK hG (c_Image_setWord hc55_14) hl.1 ⟨Nat.le_of_ble_eq_true rfl, Nat.le_of_ble_eq_true rfl⟩ ⟨Nat.zero_le _, Nat.zero_le _⟩ (Nat.le_of_ble_eq_true rfl) d_Linker_writeSection_55 (fun H locs hG => ?_)
      refine lv_iinc (v := w6 + (1 : Int32)) (k := 0) hx hb d_Linker_writeSection_58 hl rfl rfl (Nat.le_of_ble_eq_true rfl) rfl (fun ls hl => ?_)
      have hl : lv_has ls 7 [(6, .int (w6 + (1 : Int32))), (5, .int w5), (4, .ref (sm_a v w4)), (1, .ref (sm_a v 62))] := hl
      refine lv_goto hx hb d_Linker_writeSection_61 rfl ?_
      exact ih _ _ _ _ ls hG hl hf
set_option maxHeartbeats 4000000 in
set_option maxRecDepth 100000 in
theorem c_Linker_writeSection {l : Launch} {v : sm_V} {o : sm_O} {M : sm_M} {a1 : Int32} {a2 : Int32} {M' : sm_M} (hf : f_Linker_writeSection M a1 a2 = some M') : sm_Cv l y_Linker_writeSection w_Linker_writeSection rm_Linker_writeSection v [.ref (sm_a v 1), .ref (sm_a v 62), .int a1, .int a2] M o M' := by
  refine sm_met (cc := b_Linker_writeSection) (nL := 7) (ret := none) (plainFor_of_name (by decide)) rfl (Nat.le_of_ble_eq_true rfl) (fun p e s m args below meth c hC hr hlk hK hG ls hl => ?_)
  have hx := hC.1
  have hb := hC.2.1
  have hl : lv_has ls 7 [(0, .ref (sm_a v 1)), (1, .ref (sm_a v 62)), (2, .int a1), (3, .int a2)] := hl
  unfold f_Linker_writeSection at hf
  refine lv_aload_n hx hb d_Linker_writeSection_0 rfl (lv_at hl 0 rfl) ?_
  refine gf_Linker_11 hC hK hG d_Linker_writeSection_1 ?_
  refine lv_iload_n hx hb d_Linker_writeSection_4 rfl (lv_at hl 2 rfl) ?_
  obtain ⟨h5_1, hf⟩ := sm_of_gd hf
  refine sm_aald hC hK hG h5_1 d_Linker_writeSection_5 (fun k5_2 ek5_2 hk5_2 => ?_)
  have hf := sm_of ek5_2 hf
  refine lv_iload_n hx hb d_Linker_writeSection_6 rfl (lv_at hl 3 rfl) ?_
  obtain ⟨r7_4, hc7_3, hf⟩ := sm_of_b1 hf
  refine ca_Linker_75 hC hK hG hk5_2 (c_Part_sectionOf hk5_2 hc7_3) hl.1 ⟨Nat.le_of_ble_eq_true rfl, Nat.le_of_ble_eq_true rfl⟩ ⟨Nat.zero_le _, Nat.zero_le _⟩ (Nat.le_of_ble_eq_true rfl) d_Linker_writeSection_7 ?_
  have hr7_4 := sm_secOf hk5_2 hc7_3
  refine lv_astore hx hb d_Linker_writeSection_10 hl (Nat.le_of_ble_eq_true rfl) rfl (fun ls hl => ?_)
  have hl : lv_has ls 7 [(4, .ref (sm_a v r7_4)), (0, .ref (sm_a v 1)), (1, .ref (sm_a v 62)), (2, .int a1), (3, .int a2)] := hl
  refine lv_aload_n hx hb d_Linker_writeSection_12 rfl (lv_at hl 1 rfl) ?_
  refine lv_iload_n hx hb d_Linker_writeSection_13 rfl (lv_at hl 4 rfl) ?_
  refine lv_aload_n hx hb d_Linker_writeSection_14 rfl (lv_at hl 1 rfl) ?_
  refine lv_iload_n hx hb d_Linker_writeSection_15 rfl (lv_at hl 3 rfl) ?_
  refine lv_iload_n hx hb d_Linker_writeSection_16 rfl (lv_at hl 4 rfl) ?_
  refine lv_iconst (v := 0) hx hb d_Linker_writeSection_17 (by decide) ?_
  obtain ⟨r18_7, hc18_6, hf⟩ := sm_of_b1 hf
  refine ca_Linker_140 hC hK hG (c_Linker_addressOf hc18_6) hl.1 ⟨Nat.le_of_ble_eq_true rfl, Nat.le_of_ble_eq_true rfl⟩ ⟨Nat.zero_le _, Nat.zero_le _⟩ (Nat.le_of_ble_eq_true rfl) d_Linker_writeSection_18 ?_
  obtain ⟨r21_10, hc21_9, hf⟩ := sm_of_b1 hf
  refine ca_Linker_161 hC hK hG (c_Linker_byteOf hc21_9) hl.1 ⟨Nat.le_of_ble_eq_true rfl, Nat.le_of_ble_eq_true rfl⟩ ⟨Nat.zero_le _, Nat.zero_le _⟩ (Nat.le_of_ble_eq_true rfl) d_Linker_writeSection_21 ?_
  refine lv_istore hx hb d_Linker_writeSection_24 hl (Nat.le_of_ble_eq_true rfl) rfl (fun ls hl => ?_)
  have hl : lv_has ls 7 [(5, .int r21_10), (4, .ref (sm_a v r7_4)), (0, .ref (sm_a v 1)), (1, .ref (sm_a v 62)), (2, .int a1), (3, .int a2)] := hl
  have hl : lv_has ls 7 [(5, .int r21_10), (4, .ref (sm_a v r7_4)), (1, .ref (sm_a v 62))] := lv_sub hl [0, 1, 3] rfl
  refine lv_iconst (v := 0) hx hb d_Linker_writeSection_26 (by decide) ?_
  refine lv_istore hx hb d_Linker_writeSection_27 hl (Nat.le_of_ble_eq_true rfl) rfl (fun ls hl => ?_)
  have hl : lv_has ls 7 [(6, .int (0 : Int32)), (5, .int r21_10), (4, .ref (sm_a v r7_4)), (1, .ref (sm_a v 62))] := hl
  exact lw_Linker_writeSection_29 hC hr hlk hK r21_10 r7_4 hr7_4 1100 _ _ _ _ ls hG hl hf
theorem ca_Linker_167 {p : Program} {l : Launch} {e : Env} {R : Room} {s : State} {m : MethodId} {args : Array Value} {below : List Frame} {meth : Method} {c : Code} {H : Heap} {locs : List Loc} {cells slots : Nat} {Q : State → Prop} {cc : ByteArray} {nL pc : Nat} {ls : Array Slot} {rest : List Value} {w0 : Cond} {v : sm_V} {M : sm_M} {o : sm_O} {x0 : Int32} {r : Int32} (hC : CallFix p m c cc nL s args (w0 :: sm_AW) R_Linker) (hK : sm_K v s) (hG : sm_G v M o s H locs) (hM : sm_Ri l y_Image_wordAt w_Image_wordAt rm_Image_wordAt v [.ref (sm_a v 62), .int x0] M o r) (hsz : ls.size = nL) (hR : rm_Image_wordAt.frames + 1 ≤ R.frames ∧ 8 + (2 + 11) + rm_Image_wordAt.locals ≤ R.locals) (hcs : cells + 0 ≤ R.cells ∧ slots + 0 ≤ R.slots) (hW : (rest.map fun v => v.category).sum ≤ 8) (hdg : decode cc pc = .ok (.invokevirtual 167, 3))
    (kk : W p l e R s m args below meth c H locs cells slots Q (F0 m (pc + 3) ls (.int r :: rest))) : W p l e R s m args below meth c H locs cells slots Q (F0 m pc ls (.int x0 :: .ref (sm_a v 62) :: rest)) :=
  sm_calli0 (va_runV (C := R_Image) (As := [.int x0]) (rest := rest) hC hM (cwV 1 hC.2.2.2.2 (sm_good (sm_inV aw_552 aw_234 aw_235 aw_5 aw_236)) rfl rfl rfl (by decide +kernel) hR) (sm_preV hK hG (by decide) rfl rfl) rfl rfl hsz rfl (lv_room hW) hdg hcs) kk
theorem ca_Linker_170 {p : Program} {l : Launch} {e : Env} {R : Room} {s : State} {m : MethodId} {args : Array Value} {below : List Frame} {meth : Method} {c : Code} {H : Heap} {locs : List Loc} {cells slots : Nat} {Q : State → Prop} {cc : ByteArray} {nL pc : Nat} {ls : Array Slot} {rest : List Value} {w0 : Cond} {v : sm_V} {M : sm_M} {o : sm_O} {x0 : Int32} {x1 : Int32} {x2 : Int32} {x3 : Int32} {r : Int32} (hC : CallFix p m c cc nL s args (w0 :: sm_AW) R_Linker) (hK : sm_K v s) (hG : sm_G v M o s H locs) (hM : sm_Ri l y_Fix_fixed w_Fix_fixed rm_Fix_fixed v [.int x0, .int x1, .int x2, .int x3] M o r) (hsz : ls.size = nL) (hR : rm_Fix_fixed.frames + 1 ≤ R.frames ∧ 8 + (4 + 11) + rm_Fix_fixed.locals ≤ R.locals) (hcs : cells + 0 ≤ R.cells ∧ slots + 0 ≤ R.slots) (hW : (rest.map fun v => v.category).sum ≤ 8) (hdg : decode cc pc = .ok (.invokestatic 170, 3))
    (kk : W p l e R s m args below meth c H locs cells slots Q (F0 m (pc + 3) ls (.int r :: rest))) : W p l e R s m args below meth c H locs cells slots Q (F0 m pc ls (.int x3 :: .int x2 :: .int x1 :: .int x0 :: rest)) :=
  sm_calli0 (va_runS (As := [.int x0, .int x1, .int x2, .int x3]) (rest := rest) hC hM (va_cwS 4 hC.2.2.2.2 (sm_good (sm_inT aw_553 aw_554 aw_14 aw_555)) rfl rfl rfl (by decide +kernel) hR) (sm_preS hK hG) rfl rfl hsz rfl (lv_room hW) hdg hcs) kk
abbrev w_Linker_makeFixes : List Cond := Cond.code y_Linker_makeFixes b_Linker_makeFixes 6 (none) :: sm_AW
abbrev rm_Linker_makeFixes : Room := { frames := 4, cells := 0, slots := 0, locals := 90 }
def g_Linker_makeFixes_2 (w2 : Int32) (rec2 : sm_M → Int32 → Option (sm_M)) (M : sm_M) (w3 : Int32) : Option (sm_M) :=
sm_gd w2 4 (
sm_nm (3 + 14 * Int32.toNatClampNeg w2) fun k8_2 =>
(if (M k8_2 12) ≤ w3 then
(some M)
else
sm_b1 (f_Linker_fixAddress M w2 w3) fun r18_5 =>
sm_gd w2 4 (
sm_nm (3 + 14 * Int32.toNatClampNeg w2) fun k29_8 =>
sm_gd w3 16 (
sm_b1 (f_Linker_byteOf M (M (k29_8 + 9) (Int32.toNatClampNeg w3)) r18_5) fun r37_11 =>
sm_gd w2 4 (
sm_nm (3 + 14 * Int32.toNatClampNeg w2) fun k50_14 =>
sm_gd w3 16 (
sm_b1 (f_Image_wordAt M r37_11) fun r59_17 =>
sm_b1 (f_Linker_fixValue M w2 w3) fun r65_20 =>
sm_b1 (f_Fix_fixed (M (k50_14 + 11) (Int32.toNatClampNeg w3)) r59_17 r65_20 r18_5) fun r70_23 =>
sm_b1 (f_Image_setWord M r37_11 r70_23) fun M73_27 =>
rec2 M73_27 (w3 + (1 : Int32))))))))
def f_Linker_makeFixes (M : sm_M) (a1 : Int32) : Option (sm_M) :=
sm_lp2 (g_Linker_makeFixes_2 a1) 1100 M (0 : Int32)
set_option maxHeartbeats 4000000 in
set_option maxRecDepth 100000 in
theorem lw_Linker_makeFixes_2 {p : Program} {l : Launch} {e : Env} {s : State} {m : MethodId} {args : Array Value} {below : List Frame} {meth : Method} {c : Code} {v : sm_V} {o : sm_O} {M' : sm_M} (hC : CallFix p m c b_Linker_makeFixes 6 s args w_Linker_makeFixes R_Linker) (hr : meth.sig.returnType = none) (hlk : meth.locks = false) (hK : sm_K v s) (w2 : Int32) :
    ∀ (n : Nat) (M : sm_M) (w3 : Int32) (H : Heap) (locs : List Loc) (ls : Array Slot), sm_G v M o s H locs → lv_has ls 6 [(3, .int w3), (0, .ref (sm_a v 1)), (1, .ref (sm_a v 62)), (2, .int w2)] → sm_lp2 (g_Linker_makeFixes_2 w2) n M w3 = some M' → W p l e rm_Linker_makeFixes s m args below meth c H locs 0 0 (MQ below (sm_Qv v M' o) args s 0 0 (sm_A v)) (F0 m 2 ls []) := by
  have hx := hC.1
  have hb := hC.2.1
  intro n
  induction n with
  | zero =>
    intro M w3 H locs ls hG hl hf
    cases hf
  | succ n ih =>
    intro M w3 H locs ls hG hl hf
    have hf : g_Linker_makeFixes_2 w2 (sm_lp2 (g_Linker_makeFixes_2 w2) n) M w3 = some M' := hf
    unfold g_Linker_makeFixes_2 at hf
    refine lv_iload_n hx hb d_Linker_makeFixes_2 rfl (lv_at hl 0 rfl) ?_
    refine lv_aload_n hx hb d_Linker_makeFixes_3 rfl (lv_at hl 1 rfl) ?_
    refine gf_Linker_11 hC hK hG d_Linker_makeFixes_4 ?_
    refine lv_iload_n hx hb d_Linker_makeFixes_7 rfl (lv_at hl 3 rfl) ?_
    obtain ⟨h8_1, hf⟩ := sm_of_gd hf
    refine sm_aald hC hK hG h8_1 d_Linker_makeFixes_8 (fun k8_2 ek8_2 hk8_2 => ?_)
    have hf := sm_of ek8_2 hf
    refine gf_Linker_107 hC hK hG hk8_2 d_Linker_makeFixes_9 ?_
    refine lv_icmp_ge hx hb d_Linker_makeFixes_12 rfl (fun h12_3 => ?_) (fun h12_3 => ?_)
    · have hf := sm_t h12_3 hf
      obtain rfl := Option.some.inj hf
      exact sm_vret hC hr hlk hG d_Linker_makeFixes_82
    · have hf := sm_f h12_3 hf
      refine lv_aload_n hx hb d_Linker_makeFixes_15 rfl (lv_at hl 1 rfl) ?_
      refine lv_iload_n hx hb d_Linker_makeFixes_16 rfl (lv_at hl 3 rfl) ?_
      refine lv_iload_n hx hb d_Linker_makeFixes_17 rfl (lv_at hl 0 rfl) ?_
      obtain ⟨r18_5, hc18_4, hf⟩ := sm_of_b1 hf
      refine ca_Linker_119 hC hK hG (c_Linker_fixAddress hc18_4) hl.1 ⟨Nat.le_of_ble_eq_true rfl, Nat.le_of_ble_eq_true rfl⟩ ⟨Nat.zero_le _, Nat.zero_le _⟩ (Nat.le_of_ble_eq_true rfl) d_Linker_makeFixes_18 ?_
      refine lv_istore hx hb d_Linker_makeFixes_21 hl (Nat.le_of_ble_eq_true rfl) rfl (fun ls hl => ?_)
      have hl : lv_has ls 6 [(4, .int r18_5), (3, .int w3), (0, .ref (sm_a v 1)), (1, .ref (sm_a v 62)), (2, .int w2)] := hl
      refine lv_aload_n hx hb d_Linker_makeFixes_23 rfl (lv_at hl 2 rfl) ?_
      refine lv_aload_n hx hb d_Linker_makeFixes_24 rfl (lv_at hl 2 rfl) ?_
      refine gf_Linker_11 hC hK hG d_Linker_makeFixes_25 ?_
      refine lv_iload_n hx hb d_Linker_makeFixes_28 rfl (lv_at hl 4 rfl) ?_
      obtain ⟨h29_7, hf⟩ := sm_of_gd hf
      refine sm_aald hC hK hG h29_7 d_Linker_makeFixes_29 (fun k29_8 ek29_8 hk29_8 => ?_)
      have hf := sm_of ek29_8 hf
      refine gf_Linker_144 hC hK hG hk29_8 d_Linker_makeFixes_30 ?_
      refine lv_iload_n hx hb d_Linker_makeFixes_33 rfl (lv_at hl 1 rfl) ?_
      obtain ⟨h34_9, hf⟩ := sm_of_gd hf
      refine sm_iald hC hK hG (sm_p9 hk29_8).1 (sm_p9 hk29_8).2 h34_9 d_Linker_makeFixes_34 ?_
      refine lv_iload hx hb d_Linker_makeFixes_35 (lv_at hl 0 rfl) ?_
      obtain ⟨r37_11, hc37_10, hf⟩ := sm_of_b1 hf
      refine ca_Linker_161 hC hK hG (c_Linker_byteOf hc37_10) hl.1 ⟨Nat.le_of_ble_eq_true rfl, Nat.le_of_ble_eq_true rfl⟩ ⟨Nat.zero_le _, Nat.zero_le _⟩ (Nat.le_of_ble_eq_true rfl) d_Linker_makeFixes_37 ?_
      refine lv_istore hx hb d_Linker_makeFixes_40 hl (Nat.le_of_ble_eq_true rfl) rfl (fun ls hl => ?_)
      have hl : lv_has ls 6 [(5, .int r37_11), (4, .int r18_5), (3, .int w3), (0, .ref (sm_a v 1)), (1, .ref (sm_a v 62)), (2, .int w2)] := hl
      refine lv_aload_n hx hb d_Linker_makeFixes_42 rfl (lv_at hl 4 rfl) ?_
      refine lv_iload hx hb d_Linker_makeFixes_43 (lv_at hl 0 rfl) ?_
      refine lv_aload_n hx hb d_Linker_makeFixes_45 rfl (lv_at hl 3 rfl) ?_
      refine gf_Linker_11 hC hK hG d_Linker_makeFixes_46 ?_
      refine lv_iload_n hx hb d_Linker_makeFixes_49 rfl (lv_at hl 5 rfl) ?_
      obtain ⟨h50_13, hf⟩ := sm_of_gd hf
      refine sm_aald hC hK hG h50_13 d_Linker_makeFixes_50 (fun k50_14 ek50_14 hk50_14 => ?_)
      have hf := sm_of ek50_14 hf
      refine gf_Linker_122 hC hK hG hk50_14 d_Linker_makeFixes_51 ?_
      refine lv_iload_n hx hb d_Linker_makeFixes_54 rfl (lv_at hl 2 rfl) ?_
      obtain ⟨h55_15, hf⟩ := sm_of_gd hf
      refine sm_iald hC hK hG (sm_p11 hk50_14).1 (sm_p11 hk50_14).2 h55_15 d_Linker_makeFixes_55 ?_
      refine lv_aload_n hx hb d_Linker_makeFixes_56 rfl (lv_at hl 4 rfl) ?_
      refine lv_iload hx hb d_Linker_makeFixes_57 (lv_at hl 0 rfl) ?_
      obtain ⟨r59_17, hc59_16, hf⟩ := sm_of_b1 hf
      refine ca_Linker_167 hC hK hG (c_Image_wordAt hc59_16) hl.1 ⟨Nat.le_of_ble_eq_true rfl, Nat.le_of_ble_eq_true rfl⟩ ⟨Nat.zero_le _, Nat.zero_le _⟩ (Nat.le_of_ble_eq_true rfl) d_Linker_makeFixes_59 ?_
      refine lv_aload_n hx hb d_Linker_makeFixes_62 rfl (lv_at hl 3 rfl) ?_
      refine lv_iload_n hx hb d_Linker_makeFixes_63 rfl (lv_at hl 5 rfl) ?_
      refine lv_iload_n hx hb d_Linker_makeFixes_64 rfl (lv_at hl 2 rfl) ?_
      obtain ⟨r65_20, hc65_19, hf⟩ := sm_of_b1 hf
      refine ca_Linker_116 hC hK hG (c_Linker_fixValue hc65_19) hl.1 ⟨Nat.le_of_ble_eq_true rfl, Nat.le_of_ble_eq_true rfl⟩ ⟨Nat.zero_le _, Nat.zero_le _⟩ (Nat.le_of_ble_eq_true rfl) d_Linker_makeFixes_65 ?_
      refine lv_iload hx hb d_Linker_makeFixes_68 (lv_at hl 1 rfl) ?_
      obtain ⟨r70_23, hc70_22, hf⟩ := sm_of_b1 hf
      refine ca_Linker_170 hC hK hG (c_Fix_fixed hc70_22) hl.1 ⟨Nat.le_of_ble_eq_true rfl, Nat.le_of_ble_eq_true rfl⟩ ⟨Nat.zero_le _, Nat.zero_le _⟩ (Nat.le_of_ble_eq_true rfl) d_Linker_makeFixes_70 ?_
      obtain ⟨M73_27, hc73_25, hf⟩ := sm_of_b1 hf
      refine ca_Linker_154 hC hK hG (c_Image_setWord hc73_25) hl.1 ⟨Nat.le_of_ble_eq_true rfl, Nat.le_of_ble_eq_true rfl⟩ ⟨Nat.zero_le _, Nat.zero_le _⟩ (Nat.le_of_ble_eq_true rfl) d_Linker_makeFixes_73 (fun H locs hG => ?_)
      refine lv_iinc (v := w3 + (1 : Int32)) (k := 2) hx hb d_Linker_makeFixes_76 hl rfl rfl (Nat.le_of_ble_eq_true rfl) rfl (fun ls hl => ?_)
      have hl : lv_has ls 6 [(3, .int (w3 + (1 : Int32))), (5, .int r37_11), (4, .int r18_5), (0, .ref (sm_a v 1)), (1, .ref (sm_a v 62)), (2, .int w2)] := hl
      refine lv_goto hx hb d_Linker_makeFixes_79 rfl ?_
      exact ih _ _ _ _ ls hG (lv_sub hl [0, 3, 4, 5] rfl) hf
set_option maxHeartbeats 4000000 in
set_option maxRecDepth 100000 in
theorem c_Linker_makeFixes {l : Launch} {v : sm_V} {o : sm_O} {M : sm_M} {a1 : Int32} {M' : sm_M} (hf : f_Linker_makeFixes M a1 = some M') : sm_Cv l y_Linker_makeFixes w_Linker_makeFixes rm_Linker_makeFixes v [.ref (sm_a v 1), .ref (sm_a v 62), .int a1] M o M' := by
  refine sm_met (cc := b_Linker_makeFixes) (nL := 6) (ret := none) (plainFor_of_name (by decide)) rfl (Nat.le_of_ble_eq_true rfl) (fun p e s m args below meth c hC hr hlk hK hG ls hl => ?_)
  have hx := hC.1
  have hb := hC.2.1
  have hl : lv_has ls 6 [(0, .ref (sm_a v 1)), (1, .ref (sm_a v 62)), (2, .int a1)] := hl
  unfold f_Linker_makeFixes at hf
  refine lv_iconst (v := 0) hx hb d_Linker_makeFixes_0 (by decide) ?_
  refine lv_istore_n hx hb d_Linker_makeFixes_1 rfl hl (Nat.le_of_ble_eq_true rfl) rfl (fun ls hl => ?_)
  have hl : lv_has ls 6 [(3, .int (0 : Int32)), (0, .ref (sm_a v 1)), (1, .ref (sm_a v 62)), (2, .int a1)] := hl
  exact lw_Linker_makeFixes_2 hC hr hlk hK a1 1100 _ _ _ _ ls hG hl hf
theorem ca_Linker_28 {p : Program} {l : Launch} {e : Env} {R : Room} {s : State} {m : MethodId} {args : Array Value} {below : List Frame} {meth : Method} {c : Code} {H : Heap} {locs : List Loc} {cells slots : Nat} {Q : State → Prop} {cc : ByteArray} {nL pc : Nat} {ls : Array Slot} {rest : List Value} {w0 : Cond} {v : sm_V} {M : sm_M} {o : sm_O} {x0 : Int32} {M' : sm_M} (hC : CallFix p m c cc nL s args (w0 :: sm_AW) R_Linker) (hK : sm_K v s) (hG : sm_G v M o s H locs) (hM : sm_Cv l y_Linker_layOut w_Linker_layOut rm_Linker_layOut v [.ref (sm_a v 1), .int x0] M o M') (hsz : ls.size = nL) (hR : rm_Linker_layOut.frames + 1 ≤ R.frames ∧ 8 + (2 + 11) + rm_Linker_layOut.locals ≤ R.locals) (hcs : cells + 0 ≤ R.cells ∧ slots + 0 ≤ R.slots) (hW : (rest.map fun v => v.category).sum ≤ 8) (hdg : decode cc pc = .ok (.invokevirtual 28, 3))
    (kk : ∀ (H : Heap) (locs : List Loc), sm_G v M' o s H locs → W p l e R s m args below meth c H locs cells slots Q (F0 m (pc + 3) ls (rest))) : W p l e R s m args below meth c H locs cells slots Q (F0 m pc ls (.int x0 :: .ref (sm_a v 1) :: rest)) :=
  sm_callv (va_runV (C := R_Linker) (As := [.int x0]) (rest := rest) hC hM (cwV 1 hC.2.2.2.2 (sm_good (sm_inV aw_457 aw_459 as_1 aw_2 aw_460)) rfl rfl rfl (by decide +kernel) hR) (sm_preV hK hG (by decide) rfl rfl) rfl rfl hsz rfl (lv_room hW) hdg hcs) hG kk
theorem ca_Linker_32 {p : Program} {l : Launch} {e : Env} {R : Room} {s : State} {m : MethodId} {args : Array Value} {below : List Frame} {meth : Method} {c : Code} {H : Heap} {locs : List Loc} {cells slots : Nat} {Q : State → Prop} {cc : ByteArray} {nL pc : Nat} {ls : Array Slot} {rest : List Value} {w0 : Cond} {v : sm_V} {M : sm_M} {o : sm_O} {M' : sm_M} (hC : CallFix p m c cc nL s args (w0 :: sm_AW) R_Linker) (hK : sm_K v s) (hG : sm_G v M o s H locs) (hM : sm_Cv l y_Linker_findGlobals w_Linker_findGlobals rm_Linker_findGlobals v [.ref (sm_a v 1)] M o M') (hsz : ls.size = nL) (hR : rm_Linker_findGlobals.frames + 1 ≤ R.frames ∧ 8 + (4 + 11) + rm_Linker_findGlobals.locals ≤ R.locals) (hcs : cells + 0 ≤ R.cells ∧ slots + 0 ≤ R.slots) (hW : (rest.map fun v => v.category).sum ≤ 8) (hdg : decode cc pc = .ok (.invokevirtual 32, 3))
    (kk : ∀ (H : Heap) (locs : List Loc), sm_G v M' o s H locs → W p l e R s m args below meth c H locs cells slots Q (F0 m (pc + 3) ls (rest))) : W p l e R s m args below meth c H locs cells slots Q (F0 m pc ls (.ref (sm_a v 1) :: rest)) :=
  sm_callv (va_runV (C := R_Linker) (As := []) (rest := rest) hC hM (cwV 0 hC.2.2.2.2 (sm_good (sm_inV aw_466 aw_468 as_3 aw_2 aw_469)) rfl rfl rfl (by decide +kernel) hR) (sm_preV hK hG (by decide) rfl rfl) rfl rfl hsz rfl (lv_room hW) hdg hcs) hG kk
theorem ca_Linker_35 {p : Program} {l : Launch} {e : Env} {R : Room} {s : State} {m : MethodId} {args : Array Value} {below : List Frame} {meth : Method} {c : Code} {H : Heap} {locs : List Loc} {cells slots : Nat} {Q : State → Prop} {cc : ByteArray} {nL pc : Nat} {ls : Array Slot} {rest : List Value} {w0 : Cond} {v : sm_V} {M : sm_M} {o : sm_O} {x0 : Int32} {r : Int32} (hC : CallFix p m c cc nL s args (w0 :: sm_AW) R_Linker) (hK : sm_K v s) (hG : sm_G v M o s H locs) (hM : sm_Ri l y_Linker_refusalOf w_Linker_refusalOf rm_Linker_refusalOf v [.ref (sm_a v 1), .int x0] M o r) (hsz : ls.size = nL) (hR : rm_Linker_refusalOf.frames + 1 ≤ R.frames ∧ 8 + (5 + 11) + rm_Linker_refusalOf.locals ≤ R.locals) (hcs : cells + 0 ≤ R.cells ∧ slots + 0 ≤ R.slots) (hW : (rest.map fun v => v.category).sum ≤ 8) (hdg : decode cc pc = .ok (.invokevirtual 35, 3))
    (kk : W p l e R s m args below meth c H locs cells slots Q (F0 m (pc + 3) ls (.int r :: rest))) : W p l e R s m args below meth c H locs cells slots Q (F0 m pc ls (.int x0 :: .ref (sm_a v 1) :: rest)) :=
  sm_calli0 (va_runV (C := R_Linker) (As := [.int x0]) (rest := rest) hC hM (cwV 1 hC.2.2.2.2 (sm_good (sm_inV aw_482 aw_484 as_6 aw_2 aw_485)) rfl rfl rfl (by decide +kernel) hR) (sm_preV hK hG (by decide) rfl rfl) rfl rfl hsz rfl (lv_room hW) hdg hcs) kk
theorem ca_Linker_52 {p : Program} {l : Launch} {e : Env} {R : Room} {s : State} {m : MethodId} {args : Array Value} {below : List Frame} {meth : Method} {c : Code} {H : Heap} {locs : List Loc} {cells slots : Nat} {Q : State → Prop} {cc : ByteArray} {nL pc : Nat} {ls : Array Slot} {rest : List Value} {w0 : Cond} {v : sm_V} {M : sm_M} {o : sm_O} {x0 : Int32} {M' : sm_M} (hC : CallFix p m c cc nL s args (w0 :: sm_AW) R_Linker) (hK : sm_K v s) (hG : sm_G v M o s H locs) (hM : sm_Cv l y_Image_resize w_Image_resize rm_Image_resize v [.ref (sm_a v 62), .int x0] M o M') (hsz : ls.size = nL) (hR : rm_Image_resize.frames + 1 ≤ R.frames ∧ 8 + (3 + 11) + rm_Image_resize.locals ≤ R.locals) (hcs : cells + 0 ≤ R.cells ∧ slots + 0 ≤ R.slots) (hW : (rest.map fun v => v.category).sum ≤ 8) (hdg : decode cc pc = .ok (.invokevirtual 52, 3))
    (kk : ∀ (H : Heap) (locs : List Loc), sm_G v M' o s H locs → W p l e R s m args below meth c H locs cells slots Q (F0 m (pc + 3) ls (rest))) : W p l e R s m args below meth c H locs cells slots Q (F0 m pc ls (.int x0 :: .ref (sm_a v 62) :: rest)) :=
  sm_callv (va_runV (C := R_Image) (As := [.int x0]) (rest := rest) hC hM (cwV 1 hC.2.2.2.2 (sm_good (sm_inV aw_526 aw_527 aw_528 aw_5 aw_529)) rfl rfl rfl (by decide +kernel) hR) (sm_preV hK hG (by decide) rfl rfl) rfl rfl hsz rfl (lv_room hW) hdg hcs) hG kk
theorem ca_Linker_57 {p : Program} {l : Launch} {e : Env} {R : Room} {s : State} {m : MethodId} {args : Array Value} {below : List Frame} {meth : Method} {c : Code} {H : Heap} {locs : List Loc} {cells slots : Nat} {Q : State → Prop} {cc : ByteArray} {nL pc : Nat} {ls : Array Slot} {rest : List Value} {w0 : Cond} {v : sm_V} {M : sm_M} {o : sm_O} {x1 : Int32} {M' : sm_M} (hC : CallFix p m c cc nL s args (w0 :: sm_AW) R_Linker) (hK : sm_K v s) (hG : sm_G v M o s H locs) (hM : sm_Cv l y_Linker_writeHeader w_Linker_writeHeader rm_Linker_writeHeader v [.ref (sm_a v 1), .ref (sm_a v 62), .int x1] M o M') (hsz : ls.size = nL) (hR : rm_Linker_writeHeader.frames + 1 ≤ R.frames ∧ 8 + (4 + 11) + rm_Linker_writeHeader.locals ≤ R.locals) (hcs : cells + 0 ≤ R.cells ∧ slots + 0 ≤ R.slots) (hW : (rest.map fun v => v.category).sum ≤ 8) (hdg : decode cc pc = .ok (.invokevirtual 57, 3))
    (kk : ∀ (H : Heap) (locs : List Loc), sm_G v M' o s H locs → W p l e R s m args below meth c H locs cells slots Q (F0 m (pc + 3) ls (rest))) : W p l e R s m args below meth c H locs cells slots Q (F0 m pc ls (.int x1 :: .ref (sm_a v 62) :: .ref (sm_a v 1) :: rest)) :=
  sm_callv (va_runV (C := R_Linker) (As := [.ref (sm_a v 62), .int x1]) (rest := rest) hC hM (cwV 2 hC.2.2.2.2 (sm_good (sm_inV aw_530 aw_532 as_14 aw_2 aw_533)) rfl rfl rfl (by decide +kernel) hR) (sm_preV hK hG (by decide) rfl rfl) rfl rfl hsz rfl (lv_room hW) hdg hcs) hG kk
theorem ca_Linker_61 {p : Program} {l : Launch} {e : Env} {R : Room} {s : State} {m : MethodId} {args : Array Value} {below : List Frame} {meth : Method} {c : Code} {H : Heap} {locs : List Loc} {cells slots : Nat} {Q : State → Prop} {cc : ByteArray} {nL pc : Nat} {ls : Array Slot} {rest : List Value} {w0 : Cond} {v : sm_V} {M : sm_M} {o : sm_O} {x1 : Int32} {x2 : Int32} {M' : sm_M} (hC : CallFix p m c cc nL s args (w0 :: sm_AW) R_Linker) (hK : sm_K v s) (hG : sm_G v M o s H locs) (hM : sm_Cv l y_Linker_writeSection w_Linker_writeSection rm_Linker_writeSection v [.ref (sm_a v 1), .ref (sm_a v 62), .int x1, .int x2] M o M') (hsz : ls.size = nL) (hR : rm_Linker_writeSection.frames + 1 ≤ R.frames ∧ 8 + (7 + 11) + rm_Linker_writeSection.locals ≤ R.locals) (hcs : cells + 0 ≤ R.cells ∧ slots + 0 ≤ R.slots) (hW : (rest.map fun v => v.category).sum ≤ 8) (hdg : decode cc pc = .ok (.invokevirtual 61, 3))
    (kk : ∀ (H : Heap) (locs : List Loc), sm_G v M' o s H locs → W p l e R s m args below meth c H locs cells slots Q (F0 m (pc + 3) ls (rest))) : W p l e R s m args below meth c H locs cells slots Q (F0 m pc ls (.int x2 :: .int x1 :: .ref (sm_a v 62) :: .ref (sm_a v 1) :: rest)) :=
  sm_callv (va_runV (C := R_Linker) (As := [.ref (sm_a v 62), .int x1, .int x2]) (rest := rest) hC hM (cwV 3 hC.2.2.2.2 (sm_good (sm_inV aw_540 aw_542 as_15 aw_2 aw_543)) rfl rfl rfl (by decide +kernel) hR) (sm_preV hK hG (by decide) rfl rfl) rfl rfl hsz rfl (lv_room hW) hdg hcs) hG kk
theorem ca_Linker_65 {p : Program} {l : Launch} {e : Env} {R : Room} {s : State} {m : MethodId} {args : Array Value} {below : List Frame} {meth : Method} {c : Code} {H : Heap} {locs : List Loc} {cells slots : Nat} {Q : State → Prop} {cc : ByteArray} {nL pc : Nat} {ls : Array Slot} {rest : List Value} {w0 : Cond} {v : sm_V} {M : sm_M} {o : sm_O} {x1 : Int32} {M' : sm_M} (hC : CallFix p m c cc nL s args (w0 :: sm_AW) R_Linker) (hK : sm_K v s) (hG : sm_G v M o s H locs) (hM : sm_Cv l y_Linker_makeFixes w_Linker_makeFixes rm_Linker_makeFixes v [.ref (sm_a v 1), .ref (sm_a v 62), .int x1] M o M') (hsz : ls.size = nL) (hR : rm_Linker_makeFixes.frames + 1 ≤ R.frames ∧ 8 + (6 + 11) + rm_Linker_makeFixes.locals ≤ R.locals) (hcs : cells + 0 ≤ R.cells ∧ slots + 0 ≤ R.slots) (hW : (rest.map fun v => v.category).sum ≤ 8) (hdg : decode cc pc = .ok (.invokevirtual 65, 3))
    (kk : ∀ (H : Heap) (locs : List Loc), sm_G v M' o s H locs → W p l e R s m args below meth c H locs cells slots Q (F0 m (pc + 3) ls (rest))) : W p l e R s m args below meth c H locs cells slots Q (F0 m pc ls (.int x1 :: .ref (sm_a v 62) :: .ref (sm_a v 1) :: rest)) :=
  sm_callv (va_runV (C := R_Linker) (As := [.ref (sm_a v 62), .int x1]) (rest := rest) hC hM (cwV 2 hC.2.2.2.2 (sm_good (sm_inV aw_548 aw_550 as_17 aw_2 aw_551)) rfl rfl rfl (by decide +kernel) hR) (sm_preV hK hG (by decide) rfl rfl) rfl rfl hsz rfl (lv_room hW) hdg hcs) hG kk
abbrev w_Linker_build : List Cond := Cond.code y_Linker_build b_Linker_build 6 (some .int) :: sm_AW
abbrev rm_Linker_build : Room := { frames := 6, cells := 0, slots := 0, locals := 137 }
def g_Linker_build_94 (rec94 : sm_M → Int32 → Option (Int32 × sm_M)) (M : sm_M) (w5 : Int32) : Option (Int32 × sm_M) :=
(if (4 : Int32) ≤ w5 then
(some (M 62 1, M))
else
sm_b1 (f_Linker_writeSection M w5 (0 : Int32)) fun M105_22 =>
sm_b1 (f_Linker_writeSection M105_22 w5 (1 : Int32)) fun M113_25 =>
sm_b1 (f_Linker_makeFixes M113_25 w5) fun M120_28 =>
rec94 M120_28 (w5 + (1 : Int32)))
def g_Linker_build_27 (w3 : Int32) (rec27 : sm_M → Int32 → Option (Int32 × sm_M)) (M : sm_M) (w5 : Int32) : Option (Int32 × sm_M) :=
(if (16 : Int32) ≤ w5 then
sm_b1 (f_Image_resize M (((((36 : Int32) + (M 1 5)) - (M 1 4)) + (M 1 7)) - (M 1 6))) fun M77_14 =>
sm_gd w3 16 (
sm_b1 (f_Linker_writeHeader M77_14 (M77_14 61 (Int32.toNatClampNeg w3))) fun M88_18 =>
sm_lp2 (g_Linker_build_94) 1100 M88_18 (0 : Int32))
else
sm_gd w5 16 (
sm_gd w5 16 (
sm_nm (sm_up M 61 (Int32.toNatClampNeg w5) (M 60 (Int32.toNatClampNeg w5))) fun M47_31 =>
rec27 M47_31 (w5 + (1 : Int32)))))
def f_Linker_build (M : sm_M) (a1 : Int32) (a2 : Int32) : Option (Int32 × sm_M) :=
sm_b1 (f_Linker_layOut M a1) fun M2_3 =>
sm_b1 (f_Linker_findGlobals M2_3) fun M6_6 =>
sm_b1 (f_Linker_refusalOf M6_6 a2) fun r11_8 =>
(if r11_8 = 0 then
sm_lp2 (g_Linker_build_27 a2) 1100 M6_6 (0 : Int32)
else
(some (r11_8, M6_6)))
set_option maxHeartbeats 4000000 in
set_option maxRecDepth 100000 in
theorem lw_Linker_build_94 {p : Program} {l : Launch} {e : Env} {s : State} {m : MethodId} {args : Array Value} {below : List Frame} {meth : Method} {c : Code} {v : sm_V} {o : sm_O} {r : Int32} {M' : sm_M} (hC : CallFix p m c b_Linker_build 6 s args w_Linker_build R_Linker) (hr : meth.sig.returnType = some .int) (hlk : meth.locks = false) (hK : sm_K v s) :
    ∀ (n : Nat) (M : sm_M) (w5 : Int32) (H : Heap) (locs : List Loc) (ls : Array Slot), sm_G v M o s H locs → lv_has ls 6 [(5, .int w5), (0, .ref (sm_a v 1)), (1, .ref (sm_a v 62))] → sm_lp2 (g_Linker_build_94) n M w5 = some (r, M') → W p l e rm_Linker_build s m args below meth c H locs 0 0 (MQ below (sm_Qi v M' o r) args s 0 0 (sm_A v)) (F0 m 94 ls []) := by
  have hx := hC.1
  have hb := hC.2.1
  intro n
  induction n with
  | zero =>
    intro M w5 H locs ls hG hl hf
    cases hf
  | succ n ih =>
    intro M w5 H locs ls hG hl hf
    have hf : g_Linker_build_94 (sm_lp2 (g_Linker_build_94) n) M w5 = some (r, M') := hf
    unfold g_Linker_build_94 at hf
    refine lv_iload hx hb d_Linker_build_94 (lv_at hl 0 rfl) ?_
    refine lv_iconst (v := 4) hx hb d_Linker_build_96 (by decide) ?_
    refine lv_icmp_ge hx hb d_Linker_build_97 rfl (fun h97_19 => ?_) (fun h97_19 => ?_)
    · have hf := sm_t h97_19 hf
      refine lv_aload_n hx hb d_Linker_build_129 rfl (lv_at hl 2 rfl) ?_
      refine gf_Linker_68 hC hK hG d_Linker_build_130 ?_
      obtain ⟨rfl, rfl⟩ := Prod.mk.inj (Option.some.inj hf)
      exact sm_iret hC hr hlk hG d_Linker_build_133
    · have hf := sm_f h97_19 hf
      refine lv_aload_n hx hb d_Linker_build_100 rfl (lv_at hl 1 rfl) ?_
      refine lv_aload_n hx hb d_Linker_build_101 rfl (lv_at hl 2 rfl) ?_
      refine lv_iload hx hb d_Linker_build_102 (lv_at hl 0 rfl) ?_
      refine lv_iconst (v := 0) hx hb d_Linker_build_104 (by decide) ?_
      obtain ⟨M105_22, hc105_20, hf⟩ := sm_of_b1 hf
      refine ca_Linker_61 hC hK hG (c_Linker_writeSection hc105_20) hl.1 ⟨Nat.le_of_ble_eq_true rfl, Nat.le_of_ble_eq_true rfl⟩ ⟨Nat.zero_le _, Nat.zero_le _⟩ (Nat.le_of_ble_eq_true rfl) d_Linker_build_105 (fun H locs hG => ?_)
      refine lv_aload_n hx hb d_Linker_build_108 rfl (lv_at hl 1 rfl) ?_
      refine lv_aload_n hx hb d_Linker_build_109 rfl (lv_at hl 2 rfl) ?_
      refine lv_iload hx hb d_Linker_build_110 (lv_at hl 0 rfl) ?_
      refine lv_iconst (v := 1) hx hb d_Linker_build_112 (by decide) ?_
      obtain ⟨M113_25, hc113_23, hf⟩ := sm_of_b1 hf
      refine ca_Linker_61 hC hK hG (c_Linker_writeSection hc113_23) hl.1 ⟨Nat.le_of_ble_eq_true rfl, Nat.le_of_ble_eq_true rfl⟩ ⟨Nat.zero_le _, Nat.zero_le _⟩ (Nat.le_of_ble_eq_true rfl) d_Linker_build_113 (fun H locs hG => ?_)
      refine lv_aload_n hx hb d_Linker_build_116 rfl (lv_at hl 1 rfl) ?_
      refine lv_aload_n hx hb d_Linker_build_117 rfl (lv_at hl 2 rfl) ?_
      refine lv_iload hx hb d_Linker_build_118 (lv_at hl 0 rfl) ?_
      obtain ⟨M120_28, hc120_26, hf⟩ := sm_of_b1 hf
      refine ca_Linker_65 hC hK hG (c_Linker_makeFixes hc120_26) hl.1 ⟨Nat.le_of_ble_eq_true rfl, Nat.le_of_ble_eq_true rfl⟩ ⟨Nat.zero_le _, Nat.zero_le _⟩ (Nat.le_of_ble_eq_true rfl) d_Linker_build_120 (fun H locs hG => ?_)
      refine lv_iinc (v := w5 + (1 : Int32)) (k := 0) hx hb d_Linker_build_123 hl rfl rfl (Nat.le_of_ble_eq_true rfl) rfl (fun ls hl => ?_)
      have hl : lv_has ls 6 [(5, .int (w5 + (1 : Int32))), (0, .ref (sm_a v 1)), (1, .ref (sm_a v 62))] := hl
      refine lv_goto hx hb d_Linker_build_126 rfl ?_
      exact ih _ _ _ _ ls hG hl hf
set_option maxHeartbeats 4000000 in
set_option maxRecDepth 100000 in
theorem lw_Linker_build_27 {p : Program} {l : Launch} {e : Env} {s : State} {m : MethodId} {args : Array Value} {below : List Frame} {meth : Method} {c : Code} {v : sm_V} {o : sm_O} {r : Int32} {M' : sm_M} (hC : CallFix p m c b_Linker_build 6 s args w_Linker_build R_Linker) (hr : meth.sig.returnType = some .int) (hlk : meth.locks = false) (hK : sm_K v s) (w3 : Int32) :
    ∀ (n : Nat) (M : sm_M) (w5 : Int32) (H : Heap) (locs : List Loc) (ls : Array Slot), sm_G v M o s H locs → lv_has ls 6 [(5, .int w5), (0, .ref (sm_a v 1)), (1, .ref (sm_a v 62)), (3, .int w3)] → sm_lp2 (g_Linker_build_27 w3) n M w5 = some (r, M') → W p l e rm_Linker_build s m args below meth c H locs 0 0 (MQ below (sm_Qi v M' o r) args s 0 0 (sm_A v)) (F0 m 27 ls []) := by
  have hx := hC.1
  have hb := hC.2.1
  intro n
  induction n with
  | zero =>
    intro M w5 H locs ls hG hl hf
    cases hf
  | succ n ih =>
    intro M w5 H locs ls hG hl hf
    have hf : g_Linker_build_27 w3 (sm_lp2 (g_Linker_build_27 w3) n) M w5 = some (r, M') := hf
    unfold g_Linker_build_27 at hf
    refine lv_iload hx hb d_Linker_build_27 (lv_at hl 0 rfl) ?_
    refine lv_bipush (v := 16) hx hb d_Linker_build_29 (by decide) ?_
    refine lv_icmp_ge hx hb d_Linker_build_31 rfl (fun h31_11 => ?_) (fun h31_11 => ?_)
    · have hf := sm_t h31_11 hf
      refine lv_aload_n hx hb d_Linker_build_54 rfl (lv_at hl 2 rfl) ?_
      refine lv_bipush (v := 36) hx hb d_Linker_build_55 (by decide) ?_
      refine lv_aload_n hx hb d_Linker_build_57 rfl (lv_at hl 1 rfl) ?_
      refine gf_Linker_39 hC hK hG d_Linker_build_58 ?_
      refine lv_iadd hx hb d_Linker_build_61 ?_
      refine lv_aload_n hx hb d_Linker_build_62 rfl (lv_at hl 1 rfl) ?_
      refine gf_Linker_43 hC hK hG d_Linker_build_63 ?_
      refine lv_isub hx hb d_Linker_build_66 ?_
      refine lv_aload_n hx hb d_Linker_build_67 rfl (lv_at hl 1 rfl) ?_
      refine gf_Linker_46 hC hK hG d_Linker_build_68 ?_
      refine lv_iadd hx hb d_Linker_build_71 ?_
      refine lv_aload_n hx hb d_Linker_build_72 rfl (lv_at hl 1 rfl) ?_
      refine gf_Linker_49 hC hK hG d_Linker_build_73 ?_
      refine lv_isub hx hb d_Linker_build_76 ?_
      obtain ⟨M77_14, hc77_12, hf⟩ := sm_of_b1 hf
      refine ca_Linker_52 hC hK hG (c_Image_resize hc77_12) hl.1 ⟨Nat.le_of_ble_eq_true rfl, Nat.le_of_ble_eq_true rfl⟩ ⟨Nat.zero_le _, Nat.zero_le _⟩ (Nat.le_of_ble_eq_true rfl) d_Linker_build_77 (fun H locs hG => ?_)
      refine lv_aload_n hx hb d_Linker_build_80 rfl (lv_at hl 1 rfl) ?_
      refine lv_aload_n hx hb d_Linker_build_81 rfl (lv_at hl 2 rfl) ?_
      refine lv_aload_n hx hb d_Linker_build_82 rfl (lv_at hl 1 rfl) ?_
      refine gf_Linker_25 hC hK hG d_Linker_build_83 ?_
      refine lv_iload_n hx hb d_Linker_build_86 rfl (lv_at hl 3 rfl) ?_
      obtain ⟨h87_15, hf⟩ := sm_of_gd hf
      refine sm_iald hC hK hG (by decide) rfl h87_15 d_Linker_build_87 ?_
      obtain ⟨M88_18, hc88_16, hf⟩ := sm_of_b1 hf
      refine ca_Linker_57 hC hK hG (c_Linker_writeHeader hc88_16) hl.1 ⟨Nat.le_of_ble_eq_true rfl, Nat.le_of_ble_eq_true rfl⟩ ⟨Nat.zero_le _, Nat.zero_le _⟩ (Nat.le_of_ble_eq_true rfl) d_Linker_build_88 (fun H locs hG => ?_)
      refine lv_iconst (v := 0) hx hb d_Linker_build_91 (by decide) ?_
      refine lv_istore hx hb d_Linker_build_92 hl (Nat.le_of_ble_eq_true rfl) rfl (fun ls hl => ?_)
      have hl : lv_has ls 6 [(5, .int (0 : Int32)), (0, .ref (sm_a v 1)), (1, .ref (sm_a v 62)), (3, .int w3)] := hl
      have hl : lv_has ls 6 [(5, .int (0 : Int32)), (0, .ref (sm_a v 1)), (1, .ref (sm_a v 62))] := lv_sub hl [0, 1, 2] rfl
      exact lw_Linker_build_94 hC hr hlk hK  1100 _ _ _ _ ls hG hl hf
    · have hf := sm_f h31_11 hf
      refine lv_aload_n hx hb d_Linker_build_34 rfl (lv_at hl 1 rfl) ?_
      refine gf_Linker_25 hC hK hG d_Linker_build_35 ?_
      refine lv_iload hx hb d_Linker_build_38 (lv_at hl 0 rfl) ?_
      refine lv_aload_n hx hb d_Linker_build_40 rfl (lv_at hl 1 rfl) ?_
      refine gf_Linker_22 hC hK hG d_Linker_build_41 ?_
      refine lv_iload hx hb d_Linker_build_44 (lv_at hl 0 rfl) ?_
      obtain ⟨h46_29, hf⟩ := sm_of_gd hf
      refine sm_iald hC hK hG (by decide) rfl h46_29 d_Linker_build_46 ?_
      obtain ⟨h47_30, hf⟩ := sm_of_gd hf
      refine sm_iast hC hK hG (by decide) rfl h47_30 d_Linker_build_47 (fun M47_31 H locs eM47_31 hG => ?_)
      have hf := sm_of eM47_31 hf
      refine lv_iinc (v := w5 + (1 : Int32)) (k := 0) hx hb d_Linker_build_48 hl rfl rfl (Nat.le_of_ble_eq_true rfl) rfl (fun ls hl => ?_)
      have hl : lv_has ls 6 [(5, .int (w5 + (1 : Int32))), (0, .ref (sm_a v 1)), (1, .ref (sm_a v 62)), (3, .int w3)] := hl
      refine lv_goto hx hb d_Linker_build_51 rfl ?_
      exact ih _ _ _ _ ls hG hl hf
set_option maxHeartbeats 4000000 in
set_option maxRecDepth 100000 in
theorem c_Linker_build {l : Launch} {v : sm_V} {o : sm_O} {M : sm_M} {a1 : Int32} {a2 : Int32} {r : Int32} {M' : sm_M} (hf : f_Linker_build M a1 a2 = some (r, M')) : sm_Ci l y_Linker_build w_Linker_build rm_Linker_build v [.ref (sm_a v 1), .ref (sm_a v 62), .int a1, .int a2] M o r M' := by
  refine sm_met (cc := b_Linker_build) (nL := 6) (ret := some .int) (plainFor_of_name (by decide)) rfl (Nat.le_of_ble_eq_true rfl) (fun p e s m args below meth c hC hr hlk hK hG ls hl => ?_)
  have hx := hC.1
  have hb := hC.2.1
  have hl : lv_has ls 6 [(0, .ref (sm_a v 1)), (1, .ref (sm_a v 62)), (2, .int a1), (3, .int a2)] := hl
  unfold f_Linker_build at hf
  refine lv_aload_n hx hb d_Linker_build_0 rfl (lv_at hl 0 rfl) ?_
  refine lv_iload_n hx hb d_Linker_build_1 rfl (lv_at hl 2 rfl) ?_
  obtain ⟨M2_3, hc2_1, hf⟩ := sm_of_b1 hf
  refine ca_Linker_28 hC hK hG (c_Linker_layOut hc2_1) hl.1 ⟨Nat.le_of_ble_eq_true rfl, Nat.le_of_ble_eq_true rfl⟩ ⟨Nat.zero_le _, Nat.zero_le _⟩ (Nat.le_of_ble_eq_true rfl) d_Linker_build_2 (fun H locs hG => ?_)
  refine lv_aload_n hx hb d_Linker_build_5 rfl (lv_at hl 0 rfl) ?_
  obtain ⟨M6_6, hc6_4, hf⟩ := sm_of_b1 hf
  refine ca_Linker_32 hC hK hG (c_Linker_findGlobals hc6_4) hl.1 ⟨Nat.le_of_ble_eq_true rfl, Nat.le_of_ble_eq_true rfl⟩ ⟨Nat.zero_le _, Nat.zero_le _⟩ (Nat.le_of_ble_eq_true rfl) d_Linker_build_6 (fun H locs hG => ?_)
  refine lv_aload_n hx hb d_Linker_build_9 rfl (lv_at hl 0 rfl) ?_
  refine lv_iload_n hx hb d_Linker_build_10 rfl (lv_at hl 3 rfl) ?_
  obtain ⟨r11_8, hc11_7, hf⟩ := sm_of_b1 hf
  refine ca_Linker_35 hC hK hG (c_Linker_refusalOf hc11_7) hl.1 ⟨Nat.le_of_ble_eq_true rfl, Nat.le_of_ble_eq_true rfl⟩ ⟨Nat.zero_le _, Nat.zero_le _⟩ (Nat.le_of_ble_eq_true rfl) d_Linker_build_11 ?_
  refine lv_istore hx hb d_Linker_build_14 hl (Nat.le_of_ble_eq_true rfl) rfl (fun ls hl => ?_)
  have hl : lv_has ls 6 [(4, .int r11_8), (0, .ref (sm_a v 1)), (1, .ref (sm_a v 62)), (2, .int a1), (3, .int a2)] := hl
  have hl : lv_has ls 6 [(4, .int r11_8), (0, .ref (sm_a v 1)), (1, .ref (sm_a v 62)), (3, .int a2)] := lv_sub hl [0, 1, 2, 4] rfl
  refine lv_iload hx hb d_Linker_build_16 (lv_at hl 0 rfl) ?_
  refine lv_if_eq hx hb d_Linker_build_18 rfl (fun h18_10 => ?_) (fun h18_10 => ?_)
  · have hf := sm_t h18_10 hf
    refine lv_iconst (v := 0) hx hb d_Linker_build_24 (by decide) ?_
    refine lv_istore hx hb d_Linker_build_25 hl (Nat.le_of_ble_eq_true rfl) rfl (fun ls hl => ?_)
    have hl : lv_has ls 6 [(5, .int (0 : Int32)), (4, .int r11_8), (0, .ref (sm_a v 1)), (1, .ref (sm_a v 62)), (3, .int a2)] := hl
    have hl : lv_has ls 6 [(5, .int (0 : Int32)), (0, .ref (sm_a v 1)), (1, .ref (sm_a v 62)), (3, .int a2)] := lv_sub hl [0, 2, 3, 4] rfl
    exact lw_Linker_build_27 hC hr hlk hK a2 1100 _ _ _ _ ls hG hl hf
  · have hf := sm_f h18_10 hf
    refine lv_iload hx hb d_Linker_build_21 (lv_at hl 0 rfl) ?_
    obtain ⟨rfl, rfl⟩ := Prod.mk.inj (Option.some.inj hf)
    exact sm_iret hC hr hlk hG d_Linker_build_23
