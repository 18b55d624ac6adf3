theorem aw_19 : (Jvm.Cond.instantiable "LinkMill" (3 : Nat)) ∈ sm_AW := sm_awi 19 (by decide +kernel) (by decide +kernel)
theorem aw_682 : (Jvm.Cond.instantiable "LinkMillModel" (31 : Nat)) ∈ sm_AW := sm_awi 682 (by decide +kernel) (by decide +kernel)
theorem aw_18 : (Jvm.Cond.classLink "LinkMillLaw" (8 : Nat) "LinkMill") ∈ sm_AW := sm_awi 18 (by decide +kernel) (by decide +kernel)
theorem aw_22 : (Jvm.Cond.code ({ cls := "LinkMill", name := "<init>", desc := "()V" } : Jvm.MethodName) prog_1_method_1_code (1 : Nat) (Option.none : Option Jvm.ClassFile.FieldType)) ∈ sm_AW := sm_awi 22 (by decide +kernel) (by decide +kernel)
theorem aw_20 : (Jvm.Cond.methodLink "LinkMillLaw" (52 : Nat) ({ cls := "LinkMill", name := "<init>", desc := "()V" } : Jvm.MethodName)) ∈ sm_AW := sm_awi 20 (by decide +kernel) (by decide +kernel)
theorem aw_21 : (Jvm.Cond.instanceMethod ({ cls := "LinkMill", name := "<init>", desc := "()V" } : Jvm.MethodName)) ∈ sm_AW := sm_awi 21 (by decide +kernel) (by decide +kernel)
theorem aw_681 : (Jvm.Cond.classLink "LinkMillLaw" (53 : Nat) "LinkMillModel") ∈ sm_AW := sm_awi 681 (by decide +kernel) (by decide +kernel)
theorem aw_685 : (Jvm.Cond.code ({ cls := "LinkMillModel", name := "<init>", desc := "()V" } : Jvm.MethodName) prog_11_method_1_code (1 : Nat) (Option.none : Option Jvm.ClassFile.FieldType)) ∈ sm_AW := sm_awi 685 (by decide +kernel) (by decide +kernel)
theorem aw_683 : (Jvm.Cond.methodLink "LinkMillLaw" (55 : Nat) ({ cls := "LinkMillModel", name := "<init>", desc := "()V" } : Jvm.MethodName)) ∈ sm_AW := sm_awi 683 (by decide +kernel) (by decide +kernel)
theorem aw_684 : (Jvm.Cond.instanceMethod ({ cls := "LinkMillModel", name := "<init>", desc := "()V" } : Jvm.MethodName)) ∈ sm_AW := sm_awi 684 (by decide +kernel) (by decide +kernel)
theorem tw_56 : (Jvm.Cond.arrayClass Jvm.ClassFile.FieldType.int) ∈ lw_tbl := List.mem_append_right _ (List.mem_of_getElem? (i := 56) (by decide +kernel))
theorem tw_109 : (Jvm.Cond.arrayClass Jvm.ClassFile.FieldType.boolean) ∈ lw_tbl := List.mem_append_right _ (List.mem_of_getElem? (i := 109) (by decide +kernel))
theorem tw_943 : (Jvm.Cond.arrayClass Jvm.ClassFile.FieldType.long) ∈ lw_tbl := List.mem_append_right _ (List.mem_of_getElem? (i := 943) (by decide +kernel))
theorem tw_33 : (Jvm.Cond.arrayOver (Jvm.ClassFile.FieldType.object "LinkMill$Part")) ∈ lw_tbl := List.mem_append_right _ (List.mem_of_getElem? (i := 33) (by decide +kernel))
theorem tw_225 : (Jvm.Cond.laysStatic "LinkMill$Reader" "ORDER" "[I") ∈ lw_tbl := List.mem_append_right _ (List.mem_of_getElem? (i := 225) (by decide +kernel))
theorem tw_16 : (Jvm.Cond.initialized "LinkMill$Reader") ∈ lw_tbl := List.mem_append_right _ (List.mem_of_getElem? (i := 16) (by decide +kernel))
theorem tw_336 : (Jvm.Cond.laysStatic "java/lang/Throwable" "UNASSIGNED_STACK" "[Ljava/lang/StackTraceElement;") ∈ lw_tbl := List.mem_append_right _ (List.mem_of_getElem? (i := 336) (by decide +kernel))
theorem tw_9 : (Jvm.Cond.initialized "java/lang/Throwable") ∈ lw_tbl := List.mem_append_right _ (List.mem_of_getElem? (i := 9) (by decide +kernel))
theorem tw_338 : (Jvm.Cond.laysStatic "java/lang/Throwable" "SUPPRESSED_SENTINEL" "Ljava/util/List;") ∈ lw_tbl := List.mem_append_right _ (List.mem_of_getElem? (i := 338) (by decide +kernel))
set_option maxRecDepth 100000 in
theorem sm_nw_from : ∀ w ∈ sm_nw, w ∈ lw_tbl ∨ w ∈ flatC (Jvm.Cond.and given_1 narrow_1) := by
  have h : sm_nw.all (fun w => decide (w ∈ lw_tbl) || decide (w ∈ flatC (Jvm.Cond.and given_1 narrow_1))) = true := by decide +kernel
  intro w hw
  rcases Bool.or_eq_true_iff.mp (List.all_eq_true.mp h w hw) with h | h
  · exact Or.inl (of_decide_eq_true h)
  · exact Or.inr (of_decide_eq_true h)
/-! the start: the tables, the statics, the cells that the law makes -/
def sm_chk (z : Nat → Bool) : List (Option Nat) → Nat → Bool
  | [], _ => true
  | none :: r, j => sm_chk z r (j + 1)
  | some _ :: r, j => z j && sm_chk z r (j + 1)
theorem sm_fp_fs (ad : Nat → Nat) (z : Nat → Bool) (f : Nat → Int32) : ∀ (fl : List (Option Nat)) (j : Nat), sm_chk z fl j = true → sm_fp ad z f fl j = sm_fs ad f fl j
  | [], _, _ => rfl
  | none :: r, j, h => by rw [sm_fp, sm_fs, sm_fp_fs ad z f r (j + 1) h]
  | some i :: r, j, h => by
    have h2 := (Bool.and_eq_true_iff.mp h)
    rw [sm_fp, sm_fs, sm_fp_fs ad z f r (j + 1) h2.2, if_pos h2.1]
def sm_ck (z : Nat → Bool) : sm_Sh → Bool
  | .inl (0, _) => true
  | .inl (1, _) => true
  | .inl (2, _) => true
  | .inl (_, n) => (List.range n).all z
  | .inr (_, fl) => sm_chk z fl 0
theorem sm_arrV_ext {cA : ClassId} {n : Nat} {f g : Nat → Value} (h : ∀ i, i < n → f i = g i) : arrV cA n f = arrV cA n g := by
  unfold arrV
  have e : (fun j : Fin n => f j.val) = (fun j : Fin n => g j.val) := funext fun j => h j.val j.isLt
  rw [e]
theorem sm_ck_at {v : sm_V} {z : Nat → Bool} {f : Nat → Int32} {a : Nat} {H : Heap} : ∀ (S : sm_Sh), sm_ck z S = true → va_at v.1 vwCl (a, sm_EP v z f S) H → va_at v.1 vwCl (a, sm_E v f (fun _ => 0) S) H
  | .inl (0, _), _, h => h
  | .inl (1, _), _, h => h
  | .inl (2, _), _, h => h
  | .inl (k + 3, n), hz, h => by
    have hz : (List.range n).all z = true := hz
    have h : H[a]? = some (arrV v.2.2.2.2.2.1 n (fun j => va_rf (if z j = true then some (sm_a v (3 + 14 * j)) else none))) := h
    show H[a]? = some (arrV v.2.2.2.2.2.1 n (fun j => va_rf (some (sm_a v (3 + 14 * j)))))
    rw [h]
    refine congrArg some (sm_arrV_ext (fun i hi => ?_))
    rw [if_pos (List.all_eq_true.mp hz i (List.mem_range.mpr hi))]
  | .inr (ci, fl), hz, h => by
    have h : va_at v.1 vwCl (a, .inr (ci, sm_fp (sm_a v) z f fl 0)) H := h
    rw [sm_fp_fs _ _ _ _ _ hz] at h
    exact h
def sm_z0 : sm_ZT := fun _ _ => false
def sm_m0 : sm_M := sm_mLinker (fun _ _ => 0)
set_option maxRecDepth 100000 in
theorem sm_ck_all : ∀ k, k < 91 → sm_ck (sm_zModel (sm_zMill sm_z0) k) (sm_sh k) = true := by
  intro k hk
  have h : (List.range 91).all (fun k => sm_ck (sm_zModel (sm_zMill sm_z0) k) (sm_sh k)) = true := by decide +kernel
  exact List.all_eq_true.mp h k (List.mem_range.mpr hk)
theorem sm_done {v : sm_V} {H : Heap} (h : va_P v.1 vwCl (sm_wp v 91 (sm_zModel (sm_zMill sm_z0)) sm_m0) H) : va_P v.1 vwCl (sm_w v sm_m0 (fun _ => 0)) H := by
  intro k q hq
  have hl : k < 91 := by
    have := (List.getElem?_eq_some_iff.mp hq).1
    simpa [sm_w] using this
  rw [sm_w_at hl] at hq
  cases hq
  exact sm_ck_at _ (sm_ck_all k hl) (h k _ (sm_wp_at hl))
theorem sm_arrK {args : Array Value} {s : State} {ty : FieldType} (h : (Cond.arrayClass ty).before args s = true) : ∃ cA, ArrOfT s cA ty ∧ s.vm.findClass ("[" ++ ty.toString) = some cA := by
  obtain ⟨cA, k, comp, h1, h2, h3⟩ := Cond.arrayClass_spec h
  exact ⟨cA, fun n z => ⟨fun k h => (by cases h), k, h2, comp, h3⟩, h1⟩
theorem sm_nw_of {w : Cond} (hw : sm_isN w = true) {A : Array Value} {U : State} (h : w.before A U = true) : va_Nw w U := by
  match w, hw with
  | .fieldLinkNest .., _ => exact va_Nw.of rfl h
  | .methodLinkNest .., _ => exact va_Nw.of rfl h
  | .declares _, _ => exact va_Nw.of rfl h
  | .castable _ _, _ => exact va_Nw.of rfl h
  | .superclass _ _, _ => exact va_Nw.of rfl h
  | .not (.castable _ _), _ => exact h
/-- the words and the cells at the start -/
theorem sm_begin {b : Nat} {s : State} (hts : ∀ w ∈ lw_tbl, w.before #[Value.ref b] s = true) (hgv : (Jvm.Cond.and given_1 narrow_1).before #[Value.ref b] s = true) : ∃ v : sm_V, v.2.1 = s.heap.size ∧ sm_K v s := by
  have hf := flat_of_before _ hgv
  have aw : ∀ w ∈ sm_AW, w.before #[Value.ref b] s = true := fun w h => hts w (List.mem_filter.mp h).1
  obtain ⟨c0, i0, k0⟩ := u_known (C := R_Mill) (T := T_Mill) (N := 3) (n := 3) aw iw_Mill (aw _ aw_19)
  obtain ⟨c1, i1, k1⟩ := u_known (C := R_Section) (T := T_Section) (N := 2) (n := 2) aw iw_Section (aw _ aw_40)
  obtain ⟨c2, i2, k2⟩ := u_known (C := R_Part) (T := T_Part) (N := 13) (n := 13) aw iw_Part (aw _ aw_34)
  obtain ⟨c3, i3, k3⟩ := u_known (C := R_Linker) (T := T_Linker) (N := 8) (n := 8) aw iw_Linker (aw _ aw_27)
  obtain ⟨c4, i4, k4⟩ := u_known (C := R_Image) (T := T_Image) (N := 2) (n := 2) aw iw_Image (aw _ aw_138)
  obtain ⟨c5, i5, k5⟩ := u_known (C := R_Machine) (T := T_Machine) (N := 11) (n := 11) aw iw_Machine (aw _ aw_155)
  obtain ⟨c6, i6, k6⟩ := u_known (C := R_Model) (T := T_Model) (N := 31) (n := 31) aw iw_Model (aw _ aw_682)
  obtain ⟨cI, aI, nI⟩ := sm_arrK (hts _ tw_56)
  obtain ⟨cZ, aZ, nZ⟩ := sm_arrK (hts _ tw_109)
  obtain ⟨cJ, aJ, nJ⟩ := sm_arrK (hts _ tw_943)
  obtain ⟨comp, cP, kP, p1, -, p3, p4, p5⟩ := Cond.arrayOver_spec (hts _ tw_33)
  have hA : ∀ a : Nat, a < s.heap.size → ¬ (fun q => s.heap.size ≤ q) a := fun a h1 h2 => Nat.lt_irrefl _ (Nat.lt_of_lt_of_le h1 h2)
  obtain ⟨tt, ht, hT⟩ := va_Tof (args := #[Value.ref b]) (s := s) (tm := .static "LinkMill$Reader" "ORDER" "[I") (ty := .int) (N := 9) (f := fun j => .int (sm_ord j)) (by decide) (hf _ (by decide +kernel)) (va_eqt (hf _ (by decide +kernel))) (fun j hj => by
    have h : j = 0 ∨ j = 1 ∨ j = 2 ∨ j = 3 ∨ j = 4 ∨ j = 5 ∨ j = 6 ∨ j = 7 ∨ j = 8 := by omega
    rcases h with rfl | rfl | rfl | rfl | rfl | rfl | rfl | rfl | rfl
    · exact va_eqt (z := 0) (hf _ (by decide +kernel))
    · exact va_eqt (z := 2) (hf _ (by decide +kernel))
    · exact va_eqt (z := 3) (hf _ (by decide +kernel))
    · exact va_eqt (z := 4) (hf _ (by decide +kernel))
    · exact va_eqt (z := 1) (hf _ (by decide +kernel))
    · exact va_eqt (z := 5) (hf _ (by decide +kernel))
    · exact va_eqt (z := 6) (hf _ (by decide +kernel))
    · exact va_eqt (z := 7) (hf _ (by decide +kernel))
    · exact va_eqt (z := 8) (hf _ (by decide +kernel))) hA
  have hZ0 := va_Zof (hts _ tw_225) (hts _ tw_16) ht hA
  have hZ1 := va_Zqof (hts _ tw_336) (hts _ tw_9) (hf _ (by decide +kernel)) hA
  have hZ2 := va_Zqof (hts _ tw_338) (hts _ tw_9) (hf _ (by decide +kernel)) hA
  refine ⟨(((fun i => match i with | 0 => c0 | 1 => c1 | 2 => c2 | 3 => c3 | 4 => c4 | 5 => c5 | _ => c6), (fun i => match i with | 0 => i0 | 1 => i1 | 2 => i2 | 3 => i3 | 4 => i4 | 5 => i5 | _ => i6)), s.heap.size, cI, cZ, cJ, cP, tt), rfl, ⟨?_, ?_⟩, ?_, hZ0, hT, hZ1, hZ2, hts _ tw_336, hts _ tw_338⟩
  · intro i q hq
    have hi : i < 7 := (List.getElem?_eq_some_iff.mp hq).1
    have h : i = 0 ∨ i = 1 ∨ i = 2 ∨ i = 3 ∨ i = 4 ∨ i = 5 ∨ i = 6 := by omega
    rcases h with rfl | rfl | rfl | rfl | rfl | rfl | rfl <;> cases hq
    · exact k0
    · exact k1
    · exact k2
    · exact k3
    · exact k4
    · exact k5
    · exact k6
  · intro i q hq
    have hi : i < 4 := (List.getElem?_eq_some_iff.mp hq).1
    have h : i = 0 ∨ i = 1 ∨ i = 2 ∨ i = 3 := by omega
    rcases h with rfl | rfl | rfl | rfl <;> cases hq
    · exact ⟨aI, nI⟩
    · exact ⟨aZ, nZ⟩
    · exact ⟨aJ, nJ⟩
    · exact ⟨fun n z => ⟨fun k h => (by cases h), kP, p3, comp, p4⟩, kP, comp, p3, p4, p1, p5⟩
  · intro w hw
    refine sm_nw_of (sm_nwN w hw) (A := #[Value.ref b]) ?_
    have h : w ∈ lw_tbl ∨ w ∈ flatC (Jvm.Cond.and given_1 narrow_1) := sm_nw_from w hw
    rcases h with h | h
    · exact hts w h
    · exact hf w h
set_option maxHeartbeats 4000000 in
set_option maxRecDepth 100000 in
theorem sm_start {p : Program} {e : Env} {s : State} {m : MethodId} {below : List Frame} {meth : Method} {c : Code} (l : Launch) (hfl : l.flags = pinnedFlags ++ [noTraceFlag]) {b L : Nat} {xs : Nat → Int32} (hB : sm_lp3 (g_Law L xs) 1100 sm_m0 (fun _ => 0) 0 = some 1) (C0 : lw_At p s m meth c b L xs) : W p l e room_1 s m #[Value.ref b] below meth c s.heap [] 0 0 (lw_Z below #[Value.ref b] s) (entryFrame m ([Value.ref b] : List Value).toArray 7) := by
  obtain ⟨hx, hb, hr, hml, hown, hts, hX, hbl, hlk, hgv⟩ := C0
  obtain ⟨v, hv, hK⟩ := sm_begin hts hgv
  have aw : ∀ w ∈ sm_AW, w.before #[Value.ref b] s = true := fun w h => hts w (List.mem_filter.mp h).1
  have hC : CallFix p m c code 7 s #[Value.ref b] (Cond.initialized "LinkMill" :: sm_AW) R_Law := ⟨hx, hb, hml, hown, fun w hw => (List.mem_cons.mp hw).elim (fun e => e ▸ aw _ aw_1) (aw w)⟩
  have hAO : va_AO "LinkMill$Part" s := hts _ tw_33
  have hG : sm_GP v 0 sm_z0 (fun _ _ => 0) s s.heap [] := ⟨hv.symm, fun k q hq => by simp [sm_wp] at hq, va_S.rf, fun _ _ _ => rfl, fun _ _ _ => rfl⟩
  rw [lg_entry_eq]
  have hl := lv_entry (n := 7) [Value.ref b] (Nat.le_of_ble_eq_true rfl)
  generalize ((lg_sl [Value.ref b] ++ List.replicate (7 - (lg_sl [Value.ref b]).length) Slot.unset).toArray) = ls at hl
  have hl : lv_has ls 7 [(0, .ref b)] := hl
  refine sm_cnew (C := R_Mill) (T := T_Mill) (N := 3) t_Mill t_Mill_ok hC hK hG (fun w h => List.mem_cons_of_mem _ (iw_Mill w h)) rfl rfl (sm_df_Mill _) (aw _ aw_18) (aw _ aw_19) (aw _ aw_1) (Nat.le_of_ble_eq_true rfl) (Nat.le_of_ble_eq_true rfl) d_Law_law_0 (fun H hG => ?_)
  refine W.cs (cells' := 1) (slots' := 3) (by omega) (by omega) ?_
  have hG : sm_GP v 1 sm_z0 (fun _ _ => 0) s _ _ := hG
  refine lv_dup hx hb d_Law_law_3 rfl ?_
  refine sm_callI (va_runI (As := []) (rest := [.ref (sm_a v 0)]) hC c_Mill_init (cwI 0 hC.2.2.2.2 (sm_good (sm_inC aw_22)) rfl rfl rfl (aw _ aw_1) (aw _ aw_20) (aw _ aw_21) rfl (by decide +kernel) ⟨Nat.le_of_ble_eq_true rfl, Nat.le_of_ble_eq_true rfl⟩) (sm_preI hK hAO hG) rfl rfl hl.1 rfl (lv_room (Nat.le_of_ble_eq_true rfl)) d_Law_law_4 ⟨Nat.le_of_ble_eq_true rfl, Nat.le_of_ble_eq_true rfl⟩) hG (fun H locs hG => ?_)
  refine W.cs (cells' := 68) (slots' := 2017) (by omega) (by omega) ?_
  have hG : sm_GP v 68 (sm_zMill sm_z0) sm_m0 s _ _ := hG
  refine lv_astore_n hx hb d_Law_law_7 rfl hl (Nat.le_of_ble_eq_true rfl) rfl (fun ls hl => ?_)
  have hl : lv_has ls 7 [(1, .ref (sm_a v 0)), (0, .ref b)] := hl
  refine sm_cnew (C := R_Model) (T := T_Model) (N := 31) t_Model t_Model_ok hC hK hG (fun w h => List.mem_cons_of_mem _ (iw_Model w h)) rfl rfl (sm_df_Model _) (aw _ aw_681) (aw _ aw_682) (aw _ aw_7) (Nat.le_of_ble_eq_true rfl) (Nat.le_of_ble_eq_true rfl) d_Law_law_8 (fun H hG => ?_)
  refine W.cs (cells' := 69) (slots' := 2048) (by omega) (by omega) ?_
  have hG : sm_GP v 69 (sm_zMill sm_z0) sm_m0 s _ _ := hG
  refine lv_dup hx hb d_Law_law_11 rfl ?_
  refine sm_callI (va_runI (As := []) (rest := [.ref (sm_a v 68)]) hC c_Model_init (cwI 0 hC.2.2.2.2 (sm_good (sm_inC aw_685)) rfl rfl rfl (aw _ aw_7) (aw _ aw_683) (aw _ aw_684) rfl (by decide +kernel) ⟨Nat.le_of_ble_eq_true rfl, Nat.le_of_ble_eq_true rfl⟩) (sm_preI hK hAO hG) rfl rfl hl.1 rfl (lv_room (Nat.le_of_ble_eq_true rfl)) d_Law_law_12 ⟨Nat.le_of_ble_eq_true rfl, Nat.le_of_ble_eq_true rfl⟩) hG (fun H locs hG => ?_)
  refine W.cs (cells' := 90) (slots' := 4234) (by omega) (by omega) ?_
  have hG : sm_GP v 90 (sm_zModel (sm_zMill sm_z0)) sm_m0 s _ _ := hG
  refine lv_astore_n hx hb d_Law_law_15 rfl hl (Nat.le_of_ble_eq_true rfl) rfl (fun ls hl => ?_)
  have hl : lv_has ls 7 [(2, .ref (sm_a v 68)), (1, .ref (sm_a v 0)), (0, .ref b)] := hl
  refine lv_iconst (v := 1) hx hb d_Law_law_16 (by decide) ?_
  refine sm_cnewJ (N := 1) hC hK hG rfl (hts _ tw_943) (by decide) (by decide) (by decide) (Nat.le_of_ble_eq_true rfl) (Nat.le_of_ble_eq_true rfl) d_Law_law_17 (fun H hG => ?_)
  refine W.cs (cells' := 91) (slots' := 4235) (by omega) (by omega) ?_
  have hG : sm_GP v 91 (sm_zModel (sm_zMill sm_z0)) sm_m0 s _ _ := hG
  refine lv_astore_n hx hb d_Law_law_19 rfl hl (Nat.le_of_ble_eq_true rfl) rfl (fun ls hl => ?_)
  have hl : lv_has ls 7 [(3, .ref (sm_a v 90)), (2, .ref (sm_a v 68)), (1, .ref (sm_a v 0)), (0, .ref b)] := hl
  refine lv_iconst (v := 0) hx hb d_Law_law_20 (by decide) ?_
  refine lv_istore hx hb d_Law_law_21 hl (Nat.le_of_ble_eq_true rfl) rfl (fun ls hl => ?_)
  have hl : lv_has ls 7 [(4, .int 0), (3, .ref (sm_a v 90)), (2, .ref (sm_a v 68)), (1, .ref (sm_a v 0)), (0, .ref b)] := hl
  have hbA : ¬ sm_A v b := fun h => Nat.lt_irrefl _ (Nat.lt_of_lt_of_le hbl (hv ▸ h))
  exact lw_Law hfl hC hr hlk hK hX hbl hbA hv 1100 sm_m0 (fun _ => 0) 0 91 4235 _ _ ls (by omega) (by omega) ⟨sm_done hG.2.1, hG.2.2.1⟩ hl hB

