theorem sm_df_Mill (ad : Nat → Nat) {i0 : Nat} {i1 : Nat} {i2 : Nat} : ∀ j, j < 3 → defaultValue (t_Mill j) = vp_V (sm_fp ad (fun _ => false) (fun _ => 0) [some i0, some i1, some i2] 0) j := by
  intro j hj
  have h : j = 0 ∨ j = 1 ∨ j = 2 := by omega
  rcases h with rfl | rfl | rfl <;> rfl
theorem sm_df_Section (ad : Nat → Nat) {i0 : Nat} : ∀ j, j < 2 → defaultValue (t_Section j) = vp_V (sm_fp ad (fun _ => false) (fun _ => 0) [some i0, none] 0) j := by
  intro j hj
  have h : j = 0 ∨ j = 1 := by omega
  rcases h with rfl | rfl <;> rfl
theorem sm_df_Part (ad : Nat → Nat) {i0 : Nat} {i1 : Nat} {i2 : Nat} {i3 : Nat} {i4 : Nat} {i5 : Nat} {i7 : Nat} {i8 : Nat} {i9 : Nat} {i10 : Nat} {i11 : Nat} : ∀ j, j < 13 → defaultValue (t_Part j) = vp_V (sm_fp ad (fun _ => false) (fun _ => 0) [some i0, some i1, some i2, some i3, some i4, some i5, none, some i7, some i8, some i9, some i10, some i11, none] 0) j := by
  intro j hj
  have h : j = 0 ∨ j = 1 ∨ j = 2 ∨ j = 3 ∨ j = 4 ∨ j = 5 ∨ j = 6 ∨ j = 7 ∨ j = 8 ∨ j = 9 ∨ j = 10 ∨ j = 11 ∨ j = 12 := by omega
  rcases h with rfl | rfl | rfl | rfl | rfl | rfl | rfl | rfl | rfl | rfl | rfl | rfl | rfl <;> rfl
theorem sm_df_Linker (ad : Nat → Nat) {i0 : Nat} {i1 : Nat} {i2 : Nat} {i3 : Nat} : ∀ j, j < 8 → defaultValue (t_Linker j) = vp_V (sm_fp ad (fun _ => false) (fun _ => 0) [some i0, some i1, some i2, some i3, none, none, none, none] 0) j := by
  intro j hj
  have h : j = 0 ∨ j = 1 ∨ j = 2 ∨ j = 3 ∨ j = 4 ∨ j = 5 ∨ j = 6 ∨ j = 7 := by omega
  rcases h with rfl | rfl | rfl | rfl | rfl | rfl | rfl | rfl <;> rfl
theorem sm_df_Image (ad : Nat → Nat) {i0 : Nat} : ∀ j, j < 2 → defaultValue (t_Image j) = vp_V (sm_fp ad (fun _ => false) (fun _ => 0) [some i0, none] 0) j := by
  intro j hj
  have h : j = 0 ∨ j = 1 := by omega
  rcases h with rfl | rfl <;> rfl
theorem sm_df_Machine (ad : Nat → Nat) {i0 : Nat} {i1 : Nat} {i2 : Nat} : ∀ j, j < 11 → defaultValue (t_Machine j) = vp_V (sm_fp ad (fun _ => false) (fun _ => 0) [some i0, some i1, some i2, none, none, none, none, none, none, none, none] 0) j := by
  intro j hj
  have h : j = 0 ∨ j = 1 ∨ j = 2 ∨ j = 3 ∨ j = 4 ∨ j = 5 ∨ j = 6 ∨ j = 7 ∨ j = 8 ∨ j = 9 ∨ j = 10 := by omega
  rcases h with rfl | rfl | rfl | rfl | rfl | rfl | rfl | rfl | rfl | rfl | rfl <;> rfl
theorem sm_df_Model (ad : Nat → Nat) {i1 : Nat} {i2 : Nat} {i3 : Nat} {i4 : Nat} {i5 : Nat} {i6 : Nat} {i7 : Nat} {i8 : Nat} {i9 : Nat} {i10 : Nat} {i11 : Nat} {i12 : Nat} {i13 : Nat} {i14 : Nat} {i15 : Nat} {i16 : Nat} {i17 : Nat} {i19 : Nat} {i24 : Nat} {i28 : Nat} {i30 : Nat} : ∀ j, j < 31 → defaultValue (t_Model j) = vp_V (sm_fp ad (fun _ => false) (fun _ => 0) [none, some i1, some i2, some i3, some i4, some i5, some i6, some i7, some i8, some i9, some i10, some i11, some i12, some i13, some i14, some i15, some i16, some i17, none, some i19, none, none, none, none, some i24, none, none, none, some i28, none, some i30] 0) j := by
  intro j hj
  have h : j = 0 ∨ j = 1 ∨ j = 2 ∨ j = 3 ∨ j = 4 ∨ j = 5 ∨ j = 6 ∨ j = 7 ∨ j = 8 ∨ j = 9 ∨ j = 10 ∨ j = 11 ∨ j = 12 ∨ j = 13 ∨ j = 14 ∨ j = 15 ∨ j = 16 ∨ j = 17 ∨ j = 18 ∨ j = 19 ∨ j = 20 ∨ j = 21 ∨ j = 22 ∨ j = 23 ∨ j = 24 ∨ j = 25 ∨ j = 26 ∨ j = 27 ∨ j = 28 ∨ j = 29 ∨ j = 30 := by omega
  rcases h with rfl | rfl | rfl | rfl | rfl | rfl | rfl | rfl | rfl | rfl | rfl | rfl | rfl | rfl | rfl | rfl | rfl | rfl | rfl | rfl | rfl | rfl | rfl | rfl | rfl | rfl | rfl | rfl | rfl | rfl | rfl <;> rfl
theorem sm_p2 {k : Nat} (h : sm_isP k) : k + 2 < 91 ∧ sm_sh (k + 2) = .inl (0, 24) := by
  obtain ⟨j, hj, rfl⟩ := h
  exact sm_4 (P := fun j => 3 + 14 * j + 2 < 91 ∧ sm_sh (3 + 14 * j + 2) = .inl (0, 24)) ⟨by decide, rfl⟩ ⟨by decide, rfl⟩ ⟨by decide, rfl⟩ ⟨by decide, rfl⟩ j hj
theorem sm_p4 {k : Nat} (h : sm_isP k) : k + 4 < 91 ∧ sm_sh (k + 4) = .inl (0, 12) := by
  obtain ⟨j, hj, rfl⟩ := h
  exact sm_4 (P := fun j => 3 + 14 * j + 4 < 91 ∧ sm_sh (3 + 14 * j + 4) = .inl (0, 12)) ⟨by decide, rfl⟩ ⟨by decide, rfl⟩ ⟨by decide, rfl⟩ ⟨by decide, rfl⟩ j hj
abbrev w_Section_init : List Cond := Cond.code y_Section_init b_Section_init 2 none :: sm_AW
abbrev rm_Section_init (N : Nat) : Room := { frames := 1, cells := 1, slots := N, locals := 12 }
set_option maxHeartbeats 4000000 in
set_option maxRecDepth 100000 in
theorem c_Section_init {l : Launch} {v : sm_V} {Z : sm_ZT} {M : sm_M} {k0 N : Nat} {a0 : Int32} (hk : sm_isS k0) (hs : sm_sh (k0 + 1) = .inl (0, N)) (hn : ¬ a0 < 0) (hN : a0.toNatClampNeg = N) (hby : N * 4 ≤ 536870912) : sm_Kc l y_Section_init w_Section_init (rm_Section_init N) v [.ref (sm_a v k0), .int a0] (k0 + 1) Z M (k0 + 2) (sm_zs (Z) (k0) 0) M 1 N := by
  refine sm_metP (cc := b_Section_init) (nL := 2) (ret := none) (plainFor_of_name (by decide)) rfl rfl (Nat.le_of_ble_eq_true rfl) (fun p e s m args below meth c hC hr hlk hnm hK hAO h0 hG ls hl => ?_)
  have hx := hC.1
  have hb := hC.2.1
  have hl : lv_has ls 2 [(0, .ref (sm_a v k0)), (1, .int a0)] := hl
  refine lv_aload_n hx hb d_Section_init_0 rfl (lv_at hl 0 rfl) ?_
  refine sm_objI hC aw_44 aw_24 aw_25 hl.1 ⟨Nat.le_of_ble_eq_true rfl, Nat.le_of_ble_eq_true rfl⟩ d_Section_init_1 ?_
  refine lv_aload_n hx hb d_Section_init_4 rfl (lv_at hl 0 rfl) ?_
  refine lv_iload_n hx hb d_Section_init_5 rfl (lv_at hl 1 rfl) ?_
  refine sm_cnewI hC hK hG hs (hC.2.2.2.2 _ (List.mem_cons_of_mem _ aw_56)) hn hN hby (Nat.le_of_ble_eq_true rfl) (by show 0 + N ≤ N; omega) d_Section_init_6 (fun H hG => ?_)
  refine W.cs (cells' := 1) (slots' := N) (by omega) (by omega) ?_
  have hG : sm_GP v (k0 + 2) (Z) (M) s _ _ := hG
  refine sm_cputF (C := R_Section) (T := T_Section) (N := 2) (j := 0) (ty := t_Section 0) t_Section t_Section_ok n_Section hC hK hnm h0 (by omega) hG (fun w h => List.mem_cons_of_mem _ (iw_Section w h)) (by omega) (sm_s hk).2 rfl (by decide) rfl rfl rfl (t_Section_ok 0 (by decide)) (fun _ => rfl) (fun _ => rfl) (hC.2.2.2.2 _ (List.mem_cons_of_mem _ aw_45)) d_Section_init_8 (fun H locs hG => ?_)
  have hG : sm_GP v (k0 + 2) (sm_zs (Z) (k0) 0) (M) s _ _ := hG
  exact sm_vretP hC hr hlk hG d_Section_init_11
abbrev w_Part_init : List Cond := Cond.code y_Part_init b_Part_init 1 none :: sm_AW
def sm_zP (k0 : Nat) (Z : sm_ZT) : sm_ZT := sm_zs (sm_zs (sm_zs (sm_zs (sm_zs (sm_zs (sm_zs (sm_zs (sm_zs (sm_zs (sm_zs (sm_zs (sm_zs (Z) (k0 + 1) 0) (k0) 0) (k0 + 3) 0) (k0) 1) (k0) 2) (k0) 3) (k0) 4) (k0) 5) (k0) 7) (k0) 8) (k0) 9) (k0) 10) (k0) 11
abbrev rm_Part_init : Room := { frames := 2, cells := 13, slots := 152, locals := 33 }
set_option maxHeartbeats 4000000 in
set_option maxRecDepth 100000 in
theorem c_Part_init {l : Launch} {v : sm_V} {Z : sm_ZT} {M : sm_M} {k0 : Nat} (hk : sm_isP k0) : sm_Kc l y_Part_init w_Part_init rm_Part_init v [.ref (sm_a v k0)] (k0 + 1) Z M (k0 + 14) (sm_zP k0 Z) M 13 152 := by
  refine sm_metP (cc := b_Part_init) (nL := 1) (ret := none) (plainFor_of_name (by decide)) rfl rfl (Nat.le_of_ble_eq_true rfl) (fun p e s m args below meth c hC hr hlk hnm hK hAO h0 hG ls hl => ?_)
  have hx := hC.1
  have hb := hC.2.1
  have hl : lv_has ls 1 [(0, .ref (sm_a v k0))] := hl
  refine lv_aload_n hx hb d_Part_init_0 rfl (lv_at hl 0 rfl) ?_
  refine sm_objI hC aw_38 aw_24 aw_25 hl.1 ⟨Nat.le_of_ble_eq_true rfl, Nat.le_of_ble_eq_true rfl⟩ d_Part_init_1 ?_
  refine lv_aload_n hx hb d_Part_init_4 rfl (lv_at hl 0 rfl) ?_
  refine sm_cnew (C := R_Section) (T := T_Section) (N := 2) t_Section t_Section_ok hC hK hG (fun w h => List.mem_cons_of_mem _ (iw_Section w h)) (sm_s (sm_ps1 hk)).2 rfl (sm_df_Section _) (hC.2.2.2.2 _ (List.mem_cons_of_mem _ aw_39)) (hC.2.2.2.2 _ (List.mem_cons_of_mem _ aw_40)) (hC.2.2.2.2 _ (List.mem_cons_of_mem _ aw_4)) (Nat.le_of_ble_eq_true rfl) (Nat.le_of_ble_eq_true rfl) d_Part_init_5 (fun H hG => ?_)
  refine W.cs (cells' := 1) (slots' := 2) (by omega) (by omega) ?_
  have hG : sm_GP v (k0 + 2) (Z) (M) s _ _ := hG
  refine lv_dup hx hb d_Part_init_8 rfl ?_
  refine lv_bipush (v := 24) hx hb d_Part_init_9 (by decide) ?_
  refine sm_callI (va_runI (As := [.int (24 : Int32)]) (rest := [.ref (sm_a v (k0 + 1)), .ref (sm_a v k0)]) hC (c_Section_init (sm_ps1 hk) (sm_p2 hk).2 (by decide) (by decide) (by decide)) (cwI 1 hC.2.2.2.2 (sm_good (sm_inC aw_43)) rfl rfl rfl (hC.2.2.2.2 _ (List.mem_cons_of_mem _ aw_4)) (hC.2.2.2.2 _ (List.mem_cons_of_mem _ aw_41)) (hC.2.2.2.2 _ (List.mem_cons_of_mem _ aw_42)) rfl (by decide +kernel) ⟨Nat.le_of_ble_eq_true rfl, Nat.le_of_ble_eq_true rfl⟩) (sm_preI hK hAO hG) rfl rfl hl.1 rfl (lv_room (Nat.le_of_ble_eq_true rfl)) d_Part_init_11 ⟨Nat.le_of_ble_eq_true rfl, Nat.le_of_ble_eq_true rfl⟩) hG (fun H locs hG => ?_)
  refine W.cs (cells' := 2) (slots' := 26) (by omega) (by omega) ?_
  have hG : sm_GP v (k0 + 3) (sm_zs (Z) (k0 + 1) 0) (M) s _ _ := hG
  refine sm_cputF (C := R_Part) (T := T_Part) (N := 13) (j := 0) (ty := t_Part 0) t_Part t_Part_ok n_Part hC hK hnm h0 (by omega) hG (fun w h => List.mem_cons_of_mem _ (iw_Part w h)) (by omega) (sm_p hk).2 rfl (by decide) rfl rfl rfl (t_Part_ok 0 (by decide)) (fun _ => rfl) (fun _ => rfl) (hC.2.2.2.2 _ (List.mem_cons_of_mem _ aw_57)) d_Part_init_14 (fun H locs hG => ?_)
  have hG : sm_GP v (k0 + 3) (sm_zs (sm_zs (Z) (k0 + 1) 0) (k0) 0) (M) s _ _ := hG
  refine lv_aload_n hx hb d_Part_init_17 rfl (lv_at hl 0 rfl) ?_
  refine sm_cnew (C := R_Section) (T := T_Section) (N := 2) t_Section t_Section_ok hC hK hG (fun w h => List.mem_cons_of_mem _ (iw_Section w h)) (sm_s (sm_ps3 hk)).2 rfl (sm_df_Section _) (hC.2.2.2.2 _ (List.mem_cons_of_mem _ aw_39)) (hC.2.2.2.2 _ (List.mem_cons_of_mem _ aw_40)) (hC.2.2.2.2 _ (List.mem_cons_of_mem _ aw_4)) (Nat.le_of_ble_eq_true rfl) (Nat.le_of_ble_eq_true rfl) d_Part_init_18 (fun H hG => ?_)
  refine W.cs (cells' := 3) (slots' := 28) (by omega) (by omega) ?_
  have hG : sm_GP v (k0 + 4) (sm_zs (sm_zs (Z) (k0 + 1) 0) (k0) 0) (M) s _ _ := hG
  refine lv_dup hx hb d_Part_init_21 rfl ?_
  refine lv_bipush (v := 12) hx hb d_Part_init_22 (by decide) ?_
  refine sm_callI (va_runI (As := [.int (12 : Int32)]) (rest := [.ref (sm_a v (k0 + 3)), .ref (sm_a v k0)]) hC (c_Section_init (sm_ps3 hk) (sm_p4 hk).2 (by decide) (by decide) (by decide)) (cwI 1 hC.2.2.2.2 (sm_good (sm_inC aw_43)) rfl rfl rfl (hC.2.2.2.2 _ (List.mem_cons_of_mem _ aw_4)) (hC.2.2.2.2 _ (List.mem_cons_of_mem _ aw_41)) (hC.2.2.2.2 _ (List.mem_cons_of_mem _ aw_42)) rfl (by decide +kernel) ⟨Nat.le_of_ble_eq_true rfl, Nat.le_of_ble_eq_true rfl⟩) (sm_preI hK hAO hG) rfl rfl hl.1 rfl (lv_room (Nat.le_of_ble_eq_true rfl)) d_Part_init_24 ⟨Nat.le_of_ble_eq_true rfl, Nat.le_of_ble_eq_true rfl⟩) hG (fun H locs hG => ?_)
  refine W.cs (cells' := 4) (slots' := 40) (by omega) (by omega) ?_
  have hG : sm_GP v (k0 + 5) (sm_zs (sm_zs (sm_zs (Z) (k0 + 1) 0) (k0) 0) (k0 + 3) 0) (M) s _ _ := hG
  refine sm_cputF (C := R_Part) (T := T_Part) (N := 13) (j := 1) (ty := t_Part 1) t_Part t_Part_ok n_Part hC hK hnm h0 (by omega) hG (fun w h => List.mem_cons_of_mem _ (iw_Part w h)) (by omega) (sm_p hk).2 rfl (by decide) rfl rfl rfl (t_Part_ok 1 (by decide)) (fun _ => rfl) (fun _ => rfl) (hC.2.2.2.2 _ (List.mem_cons_of_mem _ aw_59)) d_Part_init_27 (fun H locs hG => ?_)
  have hG : sm_GP v (k0 + 5) (sm_zs (sm_zs (sm_zs (sm_zs (Z) (k0 + 1) 0) (k0) 0) (k0 + 3) 0) (k0) 1) (M) s _ _ := hG
  refine lv_aload_n hx hb d_Part_init_30 rfl (lv_at hl 0 rfl) ?_
  refine lv_bipush (v := 8) hx hb d_Part_init_31 (by decide) ?_
  refine sm_cnewI hC hK hG (sm_p5 hk).2 (hC.2.2.2.2 _ (List.mem_cons_of_mem _ aw_56)) (by decide) (by decide) (by decide) (Nat.le_of_ble_eq_true rfl) (Nat.le_of_ble_eq_true rfl) d_Part_init_33 (fun H hG => ?_)
  refine W.cs (cells' := 5) (slots' := 48) (by omega) (by omega) ?_
  have hG : sm_GP v (k0 + 6) (sm_zs (sm_zs (sm_zs (sm_zs (Z) (k0 + 1) 0) (k0) 0) (k0 + 3) 0) (k0) 1) (M) s _ _ := hG
  refine sm_cputF (C := R_Part) (T := T_Part) (N := 13) (j := 2) (ty := t_Part 2) t_Part t_Part_ok n_Part hC hK hnm h0 (by omega) hG (fun w h => List.mem_cons_of_mem _ (iw_Part w h)) (by omega) (sm_p hk).2 rfl (by decide) rfl rfl rfl (t_Part_ok 2 (by decide)) (fun _ => rfl) (fun _ => rfl) (hC.2.2.2.2 _ (List.mem_cons_of_mem _ aw_61)) d_Part_init_35 (fun H locs hG => ?_)
  have hG : sm_GP v (k0 + 6) (sm_zs (sm_zs (sm_zs (sm_zs (sm_zs (Z) (k0 + 1) 0) (k0) 0) (k0 + 3) 0) (k0) 1) (k0) 2) (M) s _ _ := hG
  refine lv_aload_n hx hb d_Part_init_38 rfl (lv_at hl 0 rfl) ?_
  refine lv_bipush (v := 8) hx hb d_Part_init_39 (by decide) ?_
  refine sm_cnewI hC hK hG (sm_p6 hk).2 (hC.2.2.2.2 _ (List.mem_cons_of_mem _ aw_56)) (by decide) (by decide) (by decide) (Nat.le_of_ble_eq_true rfl) (Nat.le_of_ble_eq_true rfl) d_Part_init_41 (fun H hG => ?_)
  refine W.cs (cells' := 6) (slots' := 56) (by omega) (by omega) ?_
  have hG : sm_GP v (k0 + 7) (sm_zs (sm_zs (sm_zs (sm_zs (sm_zs (Z) (k0 + 1) 0) (k0) 0) (k0 + 3) 0) (k0) 1) (k0) 2) (M) s _ _ := hG
  refine sm_cputF (C := R_Part) (T := T_Part) (N := 13) (j := 3) (ty := t_Part 3) t_Part t_Part_ok n_Part hC hK hnm h0 (by omega) hG (fun w h => List.mem_cons_of_mem _ (iw_Part w h)) (by omega) (sm_p hk).2 rfl (by decide) rfl rfl rfl (t_Part_ok 3 (by decide)) (fun _ => rfl) (fun _ => rfl) (hC.2.2.2.2 _ (List.mem_cons_of_mem _ aw_62)) d_Part_init_43 (fun H locs hG => ?_)
  have hG : sm_GP v (k0 + 7) (sm_zs (sm_zs (sm_zs (sm_zs (sm_zs (sm_zs (Z) (k0 + 1) 0) (k0) 0) (k0 + 3) 0) (k0) 1) (k0) 2) (k0) 3) (M) s _ _ := hG
  refine lv_aload_n hx hb d_Part_init_46 rfl (lv_at hl 0 rfl) ?_
  refine lv_bipush (v := 8) hx hb d_Part_init_47 (by decide) ?_
  refine sm_cnewI hC hK hG (sm_p7 hk).2 (hC.2.2.2.2 _ (List.mem_cons_of_mem _ aw_56)) (by decide) (by decide) (by decide) (Nat.le_of_ble_eq_true rfl) (Nat.le_of_ble_eq_true rfl) d_Part_init_49 (fun H hG => ?_)
  refine W.cs (cells' := 7) (slots' := 64) (by omega) (by omega) ?_
  have hG : sm_GP v (k0 + 8) (sm_zs (sm_zs (sm_zs (sm_zs (sm_zs (sm_zs (Z) (k0 + 1) 0) (k0) 0) (k0 + 3) 0) (k0) 1) (k0) 2) (k0) 3) (M) s _ _ := hG
  refine sm_cputF (C := R_Part) (T := T_Part) (N := 13) (j := 4) (ty := t_Part 4) t_Part t_Part_ok n_Part hC hK hnm h0 (by omega) hG (fun w h => List.mem_cons_of_mem _ (iw_Part w h)) (by omega) (sm_p hk).2 rfl (by decide) rfl rfl rfl (t_Part_ok 4 (by decide)) (fun _ => rfl) (fun _ => rfl) (hC.2.2.2.2 _ (List.mem_cons_of_mem _ aw_64)) d_Part_init_51 (fun H locs hG => ?_)
  have hG : sm_GP v (k0 + 8) (sm_zs (sm_zs (sm_zs (sm_zs (sm_zs (sm_zs (sm_zs (Z) (k0 + 1) 0) (k0) 0) (k0 + 3) 0) (k0) 1) (k0) 2) (k0) 3) (k0) 4) (M) s _ _ := hG
  refine lv_aload_n hx hb d_Part_init_54 rfl (lv_at hl 0 rfl) ?_
  refine lv_bipush (v := 8) hx hb d_Part_init_55 (by decide) ?_
  refine sm_cnewZ hC hK hG (sm_p8 hk).2 (hC.2.2.2.2 _ (List.mem_cons_of_mem _ aw_109)) (by decide) (by decide) (by decide) (Nat.le_of_ble_eq_true rfl) (Nat.le_of_ble_eq_true rfl) d_Part_init_57 (fun H hG => ?_)
  refine W.cs (cells' := 8) (slots' := 72) (by omega) (by omega) ?_
  have hG : sm_GP v (k0 + 9) (sm_zs (sm_zs (sm_zs (sm_zs (sm_zs (sm_zs (sm_zs (Z) (k0 + 1) 0) (k0) 0) (k0 + 3) 0) (k0) 1) (k0) 2) (k0) 3) (k0) 4) (M) s _ _ := hG
  refine sm_cputF (C := R_Part) (T := T_Part) (N := 13) (j := 5) (ty := t_Part 5) t_Part t_Part_ok n_Part hC hK hnm h0 (by omega) hG (fun w h => List.mem_cons_of_mem _ (iw_Part w h)) (by omega) (sm_p hk).2 rfl (by decide) rfl rfl rfl (t_Part_ok 5 (by decide)) (fun _ => rfl) (fun _ => rfl) (hC.2.2.2.2 _ (List.mem_cons_of_mem _ aw_66)) d_Part_init_59 (fun H locs hG => ?_)
  have hG : sm_GP v (k0 + 9) (sm_zs (sm_zs (sm_zs (sm_zs (sm_zs (sm_zs (sm_zs (sm_zs (Z) (k0 + 1) 0) (k0) 0) (k0 + 3) 0) (k0) 1) (k0) 2) (k0) 3) (k0) 4) (k0) 5) (M) s _ _ := hG
  refine lv_aload_n hx hb d_Part_init_62 rfl (lv_at hl 0 rfl) ?_
  refine lv_bipush (v := 16) hx hb d_Part_init_63 (by decide) ?_
  refine sm_cnewI hC hK hG (sm_p9 hk).2 (hC.2.2.2.2 _ (List.mem_cons_of_mem _ aw_56)) (by decide) (by decide) (by decide) (Nat.le_of_ble_eq_true rfl) (Nat.le_of_ble_eq_true rfl) d_Part_init_65 (fun H hG => ?_)
  refine W.cs (cells' := 9) (slots' := 88) (by omega) (by omega) ?_
  have hG : sm_GP v (k0 + 10) (sm_zs (sm_zs (sm_zs (sm_zs (sm_zs (sm_zs (sm_zs (sm_zs (Z) (k0 + 1) 0) (k0) 0) (k0 + 3) 0) (k0) 1) (k0) 2) (k0) 3) (k0) 4) (k0) 5) (M) s _ _ := hG
  refine sm_cputF (C := R_Part) (T := T_Part) (N := 13) (j := 7) (ty := t_Part 7) t_Part t_Part_ok n_Part hC hK hnm h0 (by omega) hG (fun w h => List.mem_cons_of_mem _ (iw_Part w h)) (by omega) (sm_p hk).2 rfl (by decide) rfl rfl rfl (t_Part_ok 7 (by decide)) (fun _ => rfl) (fun _ => rfl) (hC.2.2.2.2 _ (List.mem_cons_of_mem _ aw_69)) d_Part_init_67 (fun H locs hG => ?_)
  have hG : sm_GP v (k0 + 10) (sm_zs (sm_zs (sm_zs (sm_zs (sm_zs (sm_zs (sm_zs (sm_zs (sm_zs (Z) (k0 + 1) 0) (k0) 0) (k0 + 3) 0) (k0) 1) (k0) 2) (k0) 3) (k0) 4) (k0) 5) (k0) 7) (M) s _ _ := hG
  refine lv_aload_n hx hb d_Part_init_70 rfl (lv_at hl 0 rfl) ?_
  refine lv_bipush (v := 16) hx hb d_Part_init_71 (by decide) ?_
  refine sm_cnewI hC hK hG (sm_p10 hk).2 (hC.2.2.2.2 _ (List.mem_cons_of_mem _ aw_56)) (by decide) (by decide) (by decide) (Nat.le_of_ble_eq_true rfl) (Nat.le_of_ble_eq_true rfl) d_Part_init_73 (fun H hG => ?_)
  refine W.cs (cells' := 10) (slots' := 104) (by omega) (by omega) ?_
  have hG : sm_GP v (k0 + 11) (sm_zs (sm_zs (sm_zs (sm_zs (sm_zs (sm_zs (sm_zs (sm_zs (sm_zs (Z) (k0 + 1) 0) (k0) 0) (k0 + 3) 0) (k0) 1) (k0) 2) (k0) 3) (k0) 4) (k0) 5) (k0) 7) (M) s _ _ := hG
  refine sm_cputF (C := R_Part) (T := T_Part) (N := 13) (j := 8) (ty := t_Part 8) t_Part t_Part_ok n_Part hC hK hnm h0 (by omega) hG (fun w h => List.mem_cons_of_mem _ (iw_Part w h)) (by omega) (sm_p hk).2 rfl (by decide) rfl rfl rfl (t_Part_ok 8 (by decide)) (fun _ => rfl) (fun _ => rfl) (hC.2.2.2.2 _ (List.mem_cons_of_mem _ aw_71)) d_Part_init_75 (fun H locs hG => ?_)
  have hG : sm_GP v (k0 + 11) (sm_zs (sm_zs (sm_zs (sm_zs (sm_zs (sm_zs (sm_zs (sm_zs (sm_zs (sm_zs (Z) (k0 + 1) 0) (k0) 0) (k0 + 3) 0) (k0) 1) (k0) 2) (k0) 3) (k0) 4) (k0) 5) (k0) 7) (k0) 8) (M) s _ _ := hG
  refine lv_aload_n hx hb d_Part_init_78 rfl (lv_at hl 0 rfl) ?_
  refine lv_bipush (v := 16) hx hb d_Part_init_79 (by decide) ?_
  refine sm_cnewI hC hK hG (sm_p11 hk).2 (hC.2.2.2.2 _ (List.mem_cons_of_mem _ aw_56)) (by decide) (by decide) (by decide) (Nat.le_of_ble_eq_true rfl) (Nat.le_of_ble_eq_true rfl) d_Part_init_81 (fun H hG => ?_)
  refine W.cs (cells' := 11) (slots' := 120) (by omega) (by omega) ?_
  have hG : sm_GP v (k0 + 12) (sm_zs (sm_zs (sm_zs (sm_zs (sm_zs (sm_zs (sm_zs (sm_zs (sm_zs (sm_zs (Z) (k0 + 1) 0) (k0) 0) (k0 + 3) 0) (k0) 1) (k0) 2) (k0) 3) (k0) 4) (k0) 5) (k0) 7) (k0) 8) (M) s _ _ := hG
  refine sm_cputF (C := R_Part) (T := T_Part) (N := 13) (j := 9) (ty := t_Part 9) t_Part t_Part_ok n_Part hC hK hnm h0 (by omega) hG (fun w h => List.mem_cons_of_mem _ (iw_Part w h)) (by omega) (sm_p hk).2 rfl (by decide) rfl rfl rfl (t_Part_ok 9 (by decide)) (fun _ => rfl) (fun _ => rfl) (hC.2.2.2.2 _ (List.mem_cons_of_mem _ aw_73)) d_Part_init_83 (fun H locs hG => ?_)
  have hG : sm_GP v (k0 + 12) (sm_zs (sm_zs (sm_zs (sm_zs (sm_zs (sm_zs (sm_zs (sm_zs (sm_zs (sm_zs (sm_zs (Z) (k0 + 1) 0) (k0) 0) (k0 + 3) 0) (k0) 1) (k0) 2) (k0) 3) (k0) 4) (k0) 5) (k0) 7) (k0) 8) (k0) 9) (M) s _ _ := hG
  refine lv_aload_n hx hb d_Part_init_86 rfl (lv_at hl 0 rfl) ?_
  refine lv_bipush (v := 16) hx hb d_Part_init_87 (by decide) ?_
  refine sm_cnewI hC hK hG (sm_p12 hk).2 (hC.2.2.2.2 _ (List.mem_cons_of_mem _ aw_56)) (by decide) (by decide) (by decide) (Nat.le_of_ble_eq_true rfl) (Nat.le_of_ble_eq_true rfl) d_Part_init_89 (fun H hG => ?_)
  refine W.cs (cells' := 12) (slots' := 136) (by omega) (by omega) ?_
  have hG : sm_GP v (k0 + 13) (sm_zs (sm_zs (sm_zs (sm_zs (sm_zs (sm_zs (sm_zs (sm_zs (sm_zs (sm_zs (sm_zs (Z) (k0 + 1) 0) (k0) 0) (k0 + 3) 0) (k0) 1) (k0) 2) (k0) 3) (k0) 4) (k0) 5) (k0) 7) (k0) 8) (k0) 9) (M) s _ _ := hG
  refine sm_cputF (C := R_Part) (T := T_Part) (N := 13) (j := 10) (ty := t_Part 10) t_Part t_Part_ok n_Part hC hK hnm h0 (by omega) hG (fun w h => List.mem_cons_of_mem _ (iw_Part w h)) (by omega) (sm_p hk).2 rfl (by decide) rfl rfl rfl (t_Part_ok 10 (by decide)) (fun _ => rfl) (fun _ => rfl) (hC.2.2.2.2 _ (List.mem_cons_of_mem _ aw_75)) d_Part_init_91 (fun H locs hG => ?_)
  have hG : sm_GP v (k0 + 13) (sm_zs (sm_zs (sm_zs (sm_zs (sm_zs (sm_zs (sm_zs (sm_zs (sm_zs (sm_zs (sm_zs (sm_zs (Z) (k0 + 1) 0) (k0) 0) (k0 + 3) 0) (k0) 1) (k0) 2) (k0) 3) (k0) 4) (k0) 5) (k0) 7) (k0) 8) (k0) 9) (k0) 10) (M) s _ _ := hG
  refine lv_aload_n hx hb d_Part_init_94 rfl (lv_at hl 0 rfl) ?_
  refine lv_bipush (v := 16) hx hb d_Part_init_95 (by decide) ?_
  refine sm_cnewI hC hK hG (sm_p13 hk).2 (hC.2.2.2.2 _ (List.mem_cons_of_mem _ aw_56)) (by decide) (by decide) (by decide) (Nat.le_of_ble_eq_true rfl) (Nat.le_of_ble_eq_true rfl) d_Part_init_97 (fun H hG => ?_)
  refine W.cs (cells' := 13) (slots' := 152) (by omega) (by omega) ?_
  have hG : sm_GP v (k0 + 14) (sm_zs (sm_zs (sm_zs (sm_zs (sm_zs (sm_zs (sm_zs (sm_zs (sm_zs (sm_zs (sm_zs (sm_zs (Z) (k0 + 1) 0) (k0) 0) (k0 + 3) 0) (k0) 1) (k0) 2) (k0) 3) (k0) 4) (k0) 5) (k0) 7) (k0) 8) (k0) 9) (k0) 10) (M) s _ _ := hG
  refine sm_cputF (C := R_Part) (T := T_Part) (N := 13) (j := 11) (ty := t_Part 11) t_Part t_Part_ok n_Part hC hK hnm h0 (by omega) hG (fun w h => List.mem_cons_of_mem _ (iw_Part w h)) (by omega) (sm_p hk).2 rfl (by decide) rfl rfl rfl (t_Part_ok 11 (by decide)) (fun _ => rfl) (fun _ => rfl) (hC.2.2.2.2 _ (List.mem_cons_of_mem _ aw_77)) d_Part_init_99 (fun H locs hG => ?_)
  have hG : sm_GP v (k0 + 14) (sm_zs (sm_zs (sm_zs (sm_zs (sm_zs (sm_zs (sm_zs (sm_zs (sm_zs (sm_zs (sm_zs (sm_zs (sm_zs (Z) (k0 + 1) 0) (k0) 0) (k0 + 3) 0) (k0) 1) (k0) 2) (k0) 3) (k0) 4) (k0) 5) (k0) 7) (k0) 8) (k0) 9) (k0) 10) (k0) 11) (M) s _ _ := hG
  exact sm_vretP hC hr hlk hG d_Part_init_102
abbrev w_Linker_init : List Cond := Cond.code y_Linker_init b_Linker_init 2 none :: sm_AW
def sm_zLinker (Z : sm_ZT) : sm_ZT := sm_zs (sm_zs (sm_zs (sm_zs (sm_zP 45 (sm_zs (sm_zP 31 (sm_zs (sm_zP 17 (sm_zs (sm_zP 3 (sm_zs (Z) (1) 0)) 2 0)) 2 1)) 2 2)) 2 3) (1) 1) (1) 2) (1) 3
def sm_mLinker (M : sm_M) : sm_M := sm_up (sm_up (sm_up (sm_up (sm_up (sm_up (sm_up (sm_up (sm_up (sm_up (sm_up (sm_up (sm_up (sm_up (sm_up (sm_up (M) 61 0 (-1)) 61 1 (-1)) 61 2 (-1)) 61 3 (-1)) 61 4 (-1)) 61 5 (-1)) 61 6 (-1)) 61 7 (-1)) 61 8 (-1)) 61 9 (-1)) 61 10 (-1)) 61 11 (-1)) 61 12 (-1)) 61 13 (-1)) 61 14 (-1)) 61 15 (-1)
abbrev rm_Linker_init : Room := { frames := 3, cells := 60, slots := 704, locals := 53 }
set_option maxHeartbeats 4000000 in
set_option maxRecDepth 100000 in
theorem c_Linker_init {l : Launch} {v : sm_V} {Z : sm_ZT} {M : sm_M} : sm_Kc l y_Linker_init w_Linker_init rm_Linker_init v [.ref (sm_a v 1)] 2 Z M 62 (sm_zLinker Z) (sm_mLinker M) 60 704 := by
  refine sm_metP (cc := b_Linker_init) (nL := 2) (ret := none) (plainFor_of_name (by decide)) rfl rfl (Nat.le_of_ble_eq_true rfl) (fun p e s m args below meth c hC hr hlk hnm hK hAO h0 hG ls hl => ?_)
  have hx := hC.1
  have hb := hC.2.1
  have hl : lv_has ls 2 [(0, .ref (sm_a v 1))] := hl
  refine lv_aload_n hx hb d_Linker_init_0 rfl (lv_at hl 0 rfl) ?_
  refine sm_objI hC aw_31 aw_24 aw_25 hl.1 ⟨Nat.le_of_ble_eq_true rfl, Nat.le_of_ble_eq_true rfl⟩ d_Linker_init_1 ?_
  refine lv_aload_n hx hb d_Linker_init_4 rfl (lv_at hl 0 rfl) ?_
  refine lv_iconst (v := 4) hx hb d_Linker_init_5 (by decide) ?_
  refine sm_cnewP hC hK hG rfl (hC.2.2.2.2 _ (List.mem_cons_of_mem _ aw_32)) hAO (by decide) (by decide) (Nat.le_of_ble_eq_true rfl) (Nat.le_of_ble_eq_true rfl) d_Linker_init_6 (fun H hG => ?_)
  refine W.cs (cells' := 1) (slots' := 4) (by omega) (by omega) ?_
  have hG : sm_GP v (3) (Z) (M) s _ _ := hG
  refine sm_cputF (C := R_Linker) (T := T_Linker) (N := 8) (j := 0) (ty := t_Linker 0) t_Linker t_Linker_ok n_Linker hC hK hnm h0 (by omega) hG (fun w h => List.mem_cons_of_mem _ (iw_Linker w h)) (by decide) rfl rfl (by decide) rfl rfl rfl (t_Linker_ok 0 (by decide)) (fun _ => rfl) (fun _ => rfl) (hC.2.2.2.2 _ (List.mem_cons_of_mem _ aw_110)) d_Linker_init_9 (fun H locs hG => ?_)
  have hG : sm_GP v (3) (sm_zs (Z) (1) 0) (M) s _ _ := hG
  refine lv_iconst (v := 0) hx hb d_Linker_init_12 (by decide) ?_
  refine lv_istore_n hx hb d_Linker_init_13 rfl hl (Nat.le_of_ble_eq_true rfl) rfl (fun ls hl => ?_)
  have hl : lv_has ls 2 [(1, .int (0 : Int32)), (0, .ref (sm_a v 1))] := hl
  refine lv_iload_n hx hb d_Linker_init_14 rfl (lv_at hl 0 rfl) ?_
  refine lv_iconst (v := 4) hx hb d_Linker_init_15 (by decide) ?_
  refine lv_icmp_ge hx hb d_Linker_init_16 rfl (fun h => absurd h (by decide)) (fun _ => ?_)
  refine lv_aload_n hx hb d_Linker_init_19 rfl (lv_at hl 1 rfl) ?_
  refine sm_cgetr (C := R_Linker) (T := T_Linker) (N := 8) (j := 0) hC hK hG (fun w h => List.mem_cons_of_mem _ (iw_Linker w h)) (by decide) rfl rfl (by decide) rfl (by simp [sm_zs, sm_zP]) (hC.2.2.2.2 _ (List.mem_cons_of_mem _ aw_110)) d_Linker_init_20 ?_
  refine lv_iload_n hx hb d_Linker_init_23 rfl (lv_at hl 0 rfl) ?_
  refine sm_cnew (C := R_Part) (T := T_Part) (N := 13) t_Part t_Part_ok hC hK hG (fun w h => List.mem_cons_of_mem _ (iw_Part w h)) rfl rfl (sm_df_Part _) (hC.2.2.2.2 _ (List.mem_cons_of_mem _ aw_32)) (hC.2.2.2.2 _ (List.mem_cons_of_mem _ aw_34)) (hC.2.2.2.2 _ (List.mem_cons_of_mem _ aw_3)) (Nat.le_of_ble_eq_true rfl) (Nat.le_of_ble_eq_true rfl) d_Linker_init_24 (fun H hG => ?_)
  refine W.cs (cells' := 2) (slots' := 17) (by omega) (by omega) ?_
  have hG : sm_GP v (4) (sm_zs (Z) (1) 0) (M) s _ _ := hG
  refine lv_dup hx hb d_Linker_init_27 rfl ?_
  refine sm_callI (va_runI (As := []) (rest := [.ref (sm_a v 3), .int (0 : Int32), .ref (sm_a v 2)]) hC (c_Part_init (k0 := 3) ⟨0, by decide, rfl⟩) (cwI 0 hC.2.2.2.2 (sm_good (sm_inC aw_37)) rfl rfl rfl (hC.2.2.2.2 _ (List.mem_cons_of_mem _ aw_3)) (hC.2.2.2.2 _ (List.mem_cons_of_mem _ aw_35)) (hC.2.2.2.2 _ (List.mem_cons_of_mem _ aw_36)) rfl (by decide +kernel) ⟨Nat.le_of_ble_eq_true rfl, Nat.le_of_ble_eq_true rfl⟩) (sm_preI hK hAO hG) rfl rfl hl.1 rfl (lv_room (Nat.le_of_ble_eq_true rfl)) d_Linker_init_28 ⟨Nat.le_of_ble_eq_true rfl, Nat.le_of_ble_eq_true rfl⟩) hG (fun H locs hG => ?_)
  refine W.cs (cells' := 15) (slots' := 169) (by omega) (by omega) ?_
  have hG : sm_GP v (17) (sm_zP 3 (sm_zs (Z) (1) 0)) (M) s _ _ := hG
  refine sm_cast hC hK h0 (by omega) hG (by decide) (by decide) (by decide) rfl (by unfold vp_in; decide) d_Linker_init_31 (fun H locs hG => ?_)
  have hG : sm_GP v (17) (sm_zs (sm_zP 3 (sm_zs (Z) (1) 0)) 2 0) (M) s _ _ := hG
  refine lv_iinc (v := 1) (k := 0) hx hb d_Linker_init_32 hl rfl (by decide) (Nat.le_of_ble_eq_true rfl) rfl (fun ls hl => ?_)
  have hl : lv_has ls 2 [(1, .int (1 : Int32)), (0, .ref (sm_a v 1))] := hl
  refine lv_goto hx hb d_Linker_init_35 rfl ?_
  refine lv_iload_n hx hb d_Linker_init_14 rfl (lv_at hl 0 rfl) ?_
  refine lv_iconst (v := 4) hx hb d_Linker_init_15 (by decide) ?_
  refine lv_icmp_ge hx hb d_Linker_init_16 rfl (fun h => absurd h (by decide)) (fun _ => ?_)
  refine lv_aload_n hx hb d_Linker_init_19 rfl (lv_at hl 1 rfl) ?_
  refine sm_cgetr (C := R_Linker) (T := T_Linker) (N := 8) (j := 0) hC hK hG (fun w h => List.mem_cons_of_mem _ (iw_Linker w h)) (by decide) rfl rfl (by decide) rfl (by simp [sm_zs, sm_zP]) (hC.2.2.2.2 _ (List.mem_cons_of_mem _ aw_110)) d_Linker_init_20 ?_
  refine lv_iload_n hx hb d_Linker_init_23 rfl (lv_at hl 0 rfl) ?_
  refine sm_cnew (C := R_Part) (T := T_Part) (N := 13) t_Part t_Part_ok hC hK hG (fun w h => List.mem_cons_of_mem _ (iw_Part w h)) rfl rfl (sm_df_Part _) (hC.2.2.2.2 _ (List.mem_cons_of_mem _ aw_32)) (hC.2.2.2.2 _ (List.mem_cons_of_mem _ aw_34)) (hC.2.2.2.2 _ (List.mem_cons_of_mem _ aw_3)) (Nat.le_of_ble_eq_true rfl) (Nat.le_of_ble_eq_true rfl) d_Linker_init_24 (fun H hG => ?_)
  refine W.cs (cells' := 16) (slots' := 182) (by omega) (by omega) ?_
  have hG : sm_GP v (18) (sm_zs (sm_zP 3 (sm_zs (Z) (1) 0)) 2 0) (M) s _ _ := hG
  refine lv_dup hx hb d_Linker_init_27 rfl ?_
  refine sm_callI (va_runI (As := []) (rest := [.ref (sm_a v 17), .int (1 : Int32), .ref (sm_a v 2)]) hC (c_Part_init (k0 := 17) ⟨1, by decide, rfl⟩) (cwI 0 hC.2.2.2.2 (sm_good (sm_inC aw_37)) rfl rfl rfl (hC.2.2.2.2 _ (List.mem_cons_of_mem _ aw_3)) (hC.2.2.2.2 _ (List.mem_cons_of_mem _ aw_35)) (hC.2.2.2.2 _ (List.mem_cons_of_mem _ aw_36)) rfl (by decide +kernel) ⟨Nat.le_of_ble_eq_true rfl, Nat.le_of_ble_eq_true rfl⟩) (sm_preI hK hAO hG) rfl rfl hl.1 rfl (lv_room (Nat.le_of_ble_eq_true rfl)) d_Linker_init_28 ⟨Nat.le_of_ble_eq_true rfl, Nat.le_of_ble_eq_true rfl⟩) hG (fun H locs hG => ?_)
  refine W.cs (cells' := 29) (slots' := 334) (by omega) (by omega) ?_
  have hG : sm_GP v (31) (sm_zP 17 (sm_zs (sm_zP 3 (sm_zs (Z) (1) 0)) 2 0)) (M) s _ _ := hG
  refine sm_cast hC hK h0 (by omega) hG (by decide) (by decide) (by decide) rfl (by unfold vp_in; decide) d_Linker_init_31 (fun H locs hG => ?_)
  have hG : sm_GP v (31) (sm_zs (sm_zP 17 (sm_zs (sm_zP 3 (sm_zs (Z) (1) 0)) 2 0)) 2 1) (M) s _ _ := hG
  refine lv_iinc (v := 2) (k := 0) hx hb d_Linker_init_32 hl rfl (by decide) (Nat.le_of_ble_eq_true rfl) rfl (fun ls hl => ?_)
  have hl : lv_has ls 2 [(1, .int (2 : Int32)), (0, .ref (sm_a v 1))] := hl
  refine lv_goto hx hb d_Linker_init_35 rfl ?_
  refine lv_iload_n hx hb d_Linker_init_14 rfl (lv_at hl 0 rfl) ?_
  refine lv_iconst (v := 4) hx hb d_Linker_init_15 (by decide) ?_
  refine lv_icmp_ge hx hb d_Linker_init_16 rfl (fun h => absurd h (by decide)) (fun _ => ?_)
  refine lv_aload_n hx hb d_Linker_init_19 rfl (lv_at hl 1 rfl) ?_
  refine sm_cgetr (C := R_Linker) (T := T_Linker) (N := 8) (j := 0) hC hK hG (fun w h => List.mem_cons_of_mem _ (iw_Linker w h)) (by decide) rfl rfl (by decide) rfl (by simp [sm_zs, sm_zP]) (hC.2.2.2.2 _ (List.mem_cons_of_mem _ aw_110)) d_Linker_init_20 ?_
  refine lv_iload_n hx hb d_Linker_init_23 rfl (lv_at hl 0 rfl) ?_
  refine sm_cnew (C := R_Part) (T := T_Part) (N := 13) t_Part t_Part_ok hC hK hG (fun w h => List.mem_cons_of_mem _ (iw_Part w h)) rfl rfl (sm_df_Part _) (hC.2.2.2.2 _ (List.mem_cons_of_mem _ aw_32)) (hC.2.2.2.2 _ (List.mem_cons_of_mem _ aw_34)) (hC.2.2.2.2 _ (List.mem_cons_of_mem _ aw_3)) (Nat.le_of_ble_eq_true rfl) (Nat.le_of_ble_eq_true rfl) d_Linker_init_24 (fun H hG => ?_)
  refine W.cs (cells' := 30) (slots' := 347) (by omega) (by omega) ?_
  have hG : sm_GP v (32) (sm_zs (sm_zP 17 (sm_zs (sm_zP 3 (sm_zs (Z) (1) 0)) 2 0)) 2 1) (M) s _ _ := hG
  refine lv_dup hx hb d_Linker_init_27 rfl ?_
  refine sm_callI (va_runI (As := []) (rest := [.ref (sm_a v 31), .int (2 : Int32), .ref (sm_a v 2)]) hC (c_Part_init (k0 := 31) ⟨2, by decide, rfl⟩) (cwI 0 hC.2.2.2.2 (sm_good (sm_inC aw_37)) rfl rfl rfl (hC.2.2.2.2 _ (List.mem_cons_of_mem _ aw_3)) (hC.2.2.2.2 _ (List.mem_cons_of_mem _ aw_35)) (hC.2.2.2.2 _ (List.mem_cons_of_mem _ aw_36)) rfl (by decide +kernel) ⟨Nat.le_of_ble_eq_true rfl, Nat.le_of_ble_eq_true rfl⟩) (sm_preI hK hAO hG) rfl rfl hl.1 rfl (lv_room (Nat.le_of_ble_eq_true rfl)) d_Linker_init_28 ⟨Nat.le_of_ble_eq_true rfl, Nat.le_of_ble_eq_true rfl⟩) hG (fun H locs hG => ?_)
  refine W.cs (cells' := 43) (slots' := 499) (by omega) (by omega) ?_
  have hG : sm_GP v (45) (sm_zP 31 (sm_zs (sm_zP 17 (sm_zs (sm_zP 3 (sm_zs (Z) (1) 0)) 2 0)) 2 1)) (M) s _ _ := hG
  refine sm_cast hC hK h0 (by omega) hG (by decide) (by decide) (by decide) rfl (by unfold vp_in; decide) d_Linker_init_31 (fun H locs hG => ?_)
  have hG : sm_GP v (45) (sm_zs (sm_zP 31 (sm_zs (sm_zP 17 (sm_zs (sm_zP 3 (sm_zs (Z) (1) 0)) 2 0)) 2 1)) 2 2) (M) s _ _ := hG
  refine lv_iinc (v := 3) (k := 0) hx hb d_Linker_init_32 hl rfl (by decide) (Nat.le_of_ble_eq_true rfl) rfl (fun ls hl => ?_)
  have hl : lv_has ls 2 [(1, .int (3 : Int32)), (0, .ref (sm_a v 1))] := hl
  refine lv_goto hx hb d_Linker_init_35 rfl ?_
  refine lv_iload_n hx hb d_Linker_init_14 rfl (lv_at hl 0 rfl) ?_
  refine lv_iconst (v := 4) hx hb d_Linker_init_15 (by decide) ?_
  refine lv_icmp_ge hx hb d_Linker_init_16 rfl (fun h => absurd h (by decide)) (fun _ => ?_)
  refine lv_aload_n hx hb d_Linker_init_19 rfl (lv_at hl 1 rfl) ?_
  refine sm_cgetr (C := R_Linker) (T := T_Linker) (N := 8) (j := 0) hC hK hG (fun w h => List.mem_cons_of_mem _ (iw_Linker w h)) (by decide) rfl rfl (by decide) rfl (by simp [sm_zs, sm_zP]) (hC.2.2.2.2 _ (List.mem_cons_of_mem _ aw_110)) d_Linker_init_20 ?_
  refine lv_iload_n hx hb d_Linker_init_23 rfl (lv_at hl 0 rfl) ?_
  refine sm_cnew (C := R_Part) (T := T_Part) (N := 13) t_Part t_Part_ok hC hK hG (fun w h => List.mem_cons_of_mem _ (iw_Part w h)) rfl rfl (sm_df_Part _) (hC.2.2.2.2 _ (List.mem_cons_of_mem _ aw_32)) (hC.2.2.2.2 _ (List.mem_cons_of_mem _ aw_34)) (hC.2.2.2.2 _ (List.mem_cons_of_mem _ aw_3)) (Nat.le_of_ble_eq_true rfl) (Nat.le_of_ble_eq_true rfl) d_Linker_init_24 (fun H hG => ?_)
  refine W.cs (cells' := 44) (slots' := 512) (by omega) (by omega) ?_
  have hG : sm_GP v (46) (sm_zs (sm_zP 31 (sm_zs (sm_zP 17 (sm_zs (sm_zP 3 (sm_zs (Z) (1) 0)) 2 0)) 2 1)) 2 2) (M) s _ _ := hG
  refine lv_dup hx hb d_Linker_init_27 rfl ?_
  refine sm_callI (va_runI (As := []) (rest := [.ref (sm_a v 45), .int (3 : Int32), .ref (sm_a v 2)]) hC (c_Part_init (k0 := 45) ⟨3, by decide, rfl⟩) (cwI 0 hC.2.2.2.2 (sm_good (sm_inC aw_37)) rfl rfl rfl (hC.2.2.2.2 _ (List.mem_cons_of_mem _ aw_3)) (hC.2.2.2.2 _ (List.mem_cons_of_mem _ aw_35)) (hC.2.2.2.2 _ (List.mem_cons_of_mem _ aw_36)) rfl (by decide +kernel) ⟨Nat.le_of_ble_eq_true rfl, Nat.le_of_ble_eq_true rfl⟩) (sm_preI hK hAO hG) rfl rfl hl.1 rfl (lv_room (Nat.le_of_ble_eq_true rfl)) d_Linker_init_28 ⟨Nat.le_of_ble_eq_true rfl, Nat.le_of_ble_eq_true rfl⟩) hG (fun H locs hG => ?_)
  refine W.cs (cells' := 57) (slots' := 664) (by omega) (by omega) ?_
  have hG : sm_GP v (59) (sm_zP 45 (sm_zs (sm_zP 31 (sm_zs (sm_zP 17 (sm_zs (sm_zP 3 (sm_zs (Z) (1) 0)) 2 0)) 2 1)) 2 2)) (M) s _ _ := hG
  refine sm_cast hC hK h0 (by omega) hG (by decide) (by decide) (by decide) rfl (by unfold vp_in; decide) d_Linker_init_31 (fun H locs hG => ?_)
  have hG : sm_GP v (59) (sm_zs (sm_zP 45 (sm_zs (sm_zP 31 (sm_zs (sm_zP 17 (sm_zs (sm_zP 3 (sm_zs (Z) (1) 0)) 2 0)) 2 1)) 2 2)) 2 3) (M) s _ _ := hG
  refine lv_iinc (v := 4) (k := 0) hx hb d_Linker_init_32 hl rfl (by decide) (Nat.le_of_ble_eq_true rfl) rfl (fun ls hl => ?_)
  have hl : lv_has ls 2 [(1, .int (4 : Int32)), (0, .ref (sm_a v 1))] := hl
  refine lv_goto hx hb d_Linker_init_35 rfl ?_
  refine lv_iload_n hx hb d_Linker_init_14 rfl (lv_at hl 0 rfl) ?_
  refine lv_iconst (v := 4) hx hb d_Linker_init_15 (by decide) ?_
  refine lv_icmp_ge hx hb d_Linker_init_16 rfl (fun _ => ?_) (fun h => absurd (by decide) h)
  refine lv_aload_n hx hb d_Linker_init_38 rfl (lv_at hl 1 rfl) ?_
  refine lv_bipush (v := 8) hx hb d_Linker_init_39 (by decide) ?_
  refine sm_cnewI hC hK hG rfl (hC.2.2.2.2 _ (List.mem_cons_of_mem _ aw_56)) (by decide) (by decide) (by decide) (Nat.le_of_ble_eq_true rfl) (Nat.le_of_ble_eq_true rfl) d_Linker_init_41 (fun H hG => ?_)
  refine W.cs (cells' := 58) (slots' := 672) (by omega) (by omega) ?_
  have hG : sm_GP v (60) (sm_zs (sm_zP 45 (sm_zs (sm_zP 31 (sm_zs (sm_zP 17 (sm_zs (sm_zP 3 (sm_zs (Z) (1) 0)) 2 0)) 2 1)) 2 2)) 2 3) (M) s _ _ := hG
  refine sm_cputF (C := R_Linker) (T := T_Linker) (N := 8) (j := 1) (ty := t_Linker 1) t_Linker t_Linker_ok n_Linker hC hK hnm h0 (by omega) hG (fun w h => List.mem_cons_of_mem _ (iw_Linker w h)) (by decide) rfl rfl (by decide) rfl rfl rfl (t_Linker_ok 1 (by decide)) (fun _ => rfl) (fun _ => rfl) (hC.2.2.2.2 _ (List.mem_cons_of_mem _ aw_112)) d_Linker_init_43 (fun H locs hG => ?_)
  have hG : sm_GP v (60) (sm_zs (sm_zs (sm_zP 45 (sm_zs (sm_zP 31 (sm_zs (sm_zP 17 (sm_zs (sm_zP 3 (sm_zs (Z) (1) 0)) 2 0)) 2 1)) 2 2)) 2 3) (1) 1) (M) s _ _ := hG
  refine lv_aload_n hx hb d_Linker_init_46 rfl (lv_at hl 1 rfl) ?_
  refine lv_bipush (v := 16) hx hb d_Linker_init_47 (by decide) ?_
  refine sm_cnewI hC hK hG rfl (hC.2.2.2.2 _ (List.mem_cons_of_mem _ aw_56)) (by decide) (by decide) (by decide) (Nat.le_of_ble_eq_true rfl) (Nat.le_of_ble_eq_true rfl) d_Linker_init_49 (fun H hG => ?_)
  refine W.cs (cells' := 59) (slots' := 688) (by omega) (by omega) ?_
  have hG : sm_GP v (61) (sm_zs (sm_zs (sm_zP 45 (sm_zs (sm_zP 31 (sm_zs (sm_zP 17 (sm_zs (sm_zP 3 (sm_zs (Z) (1) 0)) 2 0)) 2 1)) 2 2)) 2 3) (1) 1) (M) s _ _ := hG
  refine sm_cputF (C := R_Linker) (T := T_Linker) (N := 8) (j := 2) (ty := t_Linker 2) t_Linker t_Linker_ok n_Linker hC hK hnm h0 (by omega) hG (fun w h => List.mem_cons_of_mem _ (iw_Linker w h)) (by decide) rfl rfl (by decide) rfl rfl rfl (t_Linker_ok 2 (by decide)) (fun _ => rfl) (fun _ => rfl) (hC.2.2.2.2 _ (List.mem_cons_of_mem _ aw_113)) d_Linker_init_51 (fun H locs hG => ?_)
  have hG : sm_GP v (61) (sm_zs (sm_zs (sm_zs (sm_zP 45 (sm_zs (sm_zP 31 (sm_zs (sm_zP 17 (sm_zs (sm_zP 3 (sm_zs (Z) (1) 0)) 2 0)) 2 1)) 2 2)) 2 3) (1) 1) (1) 2) (M) s _ _ := hG
  refine lv_aload_n hx hb d_Linker_init_54 rfl (lv_at hl 1 rfl) ?_
  refine lv_bipush (v := 16) hx hb d_Linker_init_55 (by decide) ?_
  refine sm_cnewI hC hK hG rfl (hC.2.2.2.2 _ (List.mem_cons_of_mem _ aw_56)) (by decide) (by decide) (by decide) (Nat.le_of_ble_eq_true rfl) (Nat.le_of_ble_eq_true rfl) d_Linker_init_57 (fun H hG => ?_)
  refine W.cs (cells' := 60) (slots' := 704) (by omega) (by omega) ?_
  have hG : sm_GP v (62) (sm_zs (sm_zs (sm_zs (sm_zP 45 (sm_zs (sm_zP 31 (sm_zs (sm_zP 17 (sm_zs (sm_zP 3 (sm_zs (Z) (1) 0)) 2 0)) 2 1)) 2 2)) 2 3) (1) 1) (1) 2) (M) s _ _ := hG
  refine sm_cputF (C := R_Linker) (T := T_Linker) (N := 8) (j := 3) (ty := t_Linker 3) t_Linker t_Linker_ok n_Linker hC hK hnm h0 (by omega) hG (fun w h => List.mem_cons_of_mem _ (iw_Linker w h)) (by decide) rfl rfl (by decide) rfl rfl rfl (t_Linker_ok 3 (by decide)) (fun _ => rfl) (fun _ => rfl) (hC.2.2.2.2 _ (List.mem_cons_of_mem _ aw_114)) d_Linker_init_59 (fun H locs hG => ?_)
  have hG : sm_GP v (62) (sm_zs (sm_zs (sm_zs (sm_zs (sm_zP 45 (sm_zs (sm_zP 31 (sm_zs (sm_zP 17 (sm_zs (sm_zP 3 (sm_zs (Z) (1) 0)) 2 0)) 2 1)) 2 2)) 2 3) (1) 1) (1) 2) (1) 3) (M) s _ _ := hG
  refine lv_iconst (v := 0) hx hb d_Linker_init_62 (by decide) ?_
  refine lv_istore_n hx hb d_Linker_init_63 rfl hl (Nat.le_of_ble_eq_true rfl) rfl (fun ls hl => ?_)
  have hl : lv_has ls 2 [(1, .int (0 : Int32)), (0, .ref (sm_a v 1))] := hl
  refine lv_iload_n hx hb d_Linker_init_64 rfl (lv_at hl 0 rfl) ?_
  refine lv_bipush (v := 16) hx hb d_Linker_init_65 (by decide) ?_
  refine lv_icmp_ge hx hb d_Linker_init_67 rfl (fun h => absurd h (by decide)) (fun _ => ?_)
  refine lv_aload_n hx hb d_Linker_init_70 rfl (lv_at hl 1 rfl) ?_
  refine sm_cgetr (C := R_Linker) (T := T_Linker) (N := 8) (j := 3) hC hK hG (fun w h => List.mem_cons_of_mem _ (iw_Linker w h)) (by decide) rfl rfl (by decide) rfl (by simp [sm_zs, sm_zP]) (hC.2.2.2.2 _ (List.mem_cons_of_mem _ aw_114)) d_Linker_init_71 ?_
  refine lv_iload_n hx hb d_Linker_init_74 rfl (lv_at hl 0 rfl) ?_
  refine lv_iconst (v := -1) hx hb d_Linker_init_75 (by decide) ?_
  refine sm_ciast hC hK h0 (by omega) hG (by decide) rfl (by unfold vp_in; decide) d_Linker_init_76 (fun H locs hG => ?_)
  have hG : sm_GP v (62) (sm_zs (sm_zs (sm_zs (sm_zs (sm_zP 45 (sm_zs (sm_zP 31 (sm_zs (sm_zP 17 (sm_zs (sm_zP 3 (sm_zs (Z) (1) 0)) 2 0)) 2 1)) 2 2)) 2 3) (1) 1) (1) 2) (1) 3) (sm_up (M) 61 0 (-1)) s _ _ := hG
  refine lv_iinc (v := 1) (k := 0) hx hb d_Linker_init_77 hl rfl (by decide) (Nat.le_of_ble_eq_true rfl) rfl (fun ls hl => ?_)
  have hl : lv_has ls 2 [(1, .int (1 : Int32)), (0, .ref (sm_a v 1))] := hl
  refine lv_goto hx hb d_Linker_init_80 rfl ?_
  refine lv_iload_n hx hb d_Linker_init_64 rfl (lv_at hl 0 rfl) ?_
  refine lv_bipush (v := 16) hx hb d_Linker_init_65 (by decide) ?_
  refine lv_icmp_ge hx hb d_Linker_init_67 rfl (fun h => absurd h (by decide)) (fun _ => ?_)
  refine lv_aload_n hx hb d_Linker_init_70 rfl (lv_at hl 1 rfl) ?_
  refine sm_cgetr (C := R_Linker) (T := T_Linker) (N := 8) (j := 3) hC hK hG (fun w h => List.mem_cons_of_mem _ (iw_Linker w h)) (by decide) rfl rfl (by decide) rfl (by simp [sm_zs, sm_zP]) (hC.2.2.2.2 _ (List.mem_cons_of_mem _ aw_114)) d_Linker_init_71 ?_
  refine lv_iload_n hx hb d_Linker_init_74 rfl (lv_at hl 0 rfl) ?_
  refine lv_iconst (v := -1) hx hb d_Linker_init_75 (by decide) ?_
  refine sm_ciast hC hK h0 (by omega) hG (by decide) rfl (by unfold vp_in; decide) d_Linker_init_76 (fun H locs hG => ?_)
  have hG : sm_GP v (62) (sm_zs (sm_zs (sm_zs (sm_zs (sm_zP 45 (sm_zs (sm_zP 31 (sm_zs (sm_zP 17 (sm_zs (sm_zP 3 (sm_zs (Z) (1) 0)) 2 0)) 2 1)) 2 2)) 2 3) (1) 1) (1) 2) (1) 3) (sm_up (sm_up (M) 61 0 (-1)) 61 1 (-1)) s _ _ := hG
  refine lv_iinc (v := 2) (k := 0) hx hb d_Linker_init_77 hl rfl (by decide) (Nat.le_of_ble_eq_true rfl) rfl (fun ls hl => ?_)
  have hl : lv_has ls 2 [(1, .int (2 : Int32)), (0, .ref (sm_a v 1))] := hl
  refine lv_goto hx hb d_Linker_init_80 rfl ?_
  refine lv_iload_n hx hb d_Linker_init_64 rfl (lv_at hl 0 rfl) ?_
  refine lv_bipush (v := 16) hx hb d_Linker_init_65 (by decide) ?_
  refine lv_icmp_ge hx hb d_Linker_init_67 rfl (fun h => absurd h (by decide)) (fun _ => ?_)
  refine lv_aload_n hx hb d_Linker_init_70 rfl (lv_at hl 1 rfl) ?_
  refine sm_cgetr (C := R_Linker) (T := T_Linker) (N := 8) (j := 3) hC hK hG (fun w h => List.mem_cons_of_mem _ (iw_Linker w h)) (by decide) rfl rfl (by decide) rfl (by simp [sm_zs, sm_zP]) (hC.2.2.2.2 _ (List.mem_cons_of_mem _ aw_114)) d_Linker_init_71 ?_
  refine lv_iload_n hx hb d_Linker_init_74 rfl (lv_at hl 0 rfl) ?_
  refine lv_iconst (v := -1) hx hb d_Linker_init_75 (by decide) ?_
  refine sm_ciast hC hK h0 (by omega) hG (by decide) rfl (by unfold vp_in; decide) d_Linker_init_76 (fun H locs hG => ?_)
  have hG : sm_GP v (62) (sm_zs (sm_zs (sm_zs (sm_zs (sm_zP 45 (sm_zs (sm_zP 31 (sm_zs (sm_zP 17 (sm_zs (sm_zP 3 (sm_zs (Z) (1) 0)) 2 0)) 2 1)) 2 2)) 2 3) (1) 1) (1) 2) (1) 3) (sm_up (sm_up (sm_up (M) 61 0 (-1)) 61 1 (-1)) 61 2 (-1)) s _ _ := hG
  refine lv_iinc (v := 3) (k := 0) hx hb d_Linker_init_77 hl rfl (by decide) (Nat.le_of_ble_eq_true rfl) rfl (fun ls hl => ?_)
  have hl : lv_has ls 2 [(1, .int (3 : Int32)), (0, .ref (sm_a v 1))] := hl
  refine lv_goto hx hb d_Linker_init_80 rfl ?_
  refine lv_iload_n hx hb d_Linker_init_64 rfl (lv_at hl 0 rfl) ?_
  refine lv_bipush (v := 16) hx hb d_Linker_init_65 (by decide) ?_
  refine lv_icmp_ge hx hb d_Linker_init_67 rfl (fun h => absurd h (by decide)) (fun _ => ?_)
  refine lv_aload_n hx hb d_Linker_init_70 rfl (lv_at hl 1 rfl) ?_
  refine sm_cgetr (C := R_Linker) (T := T_Linker) (N := 8) (j := 3) hC hK hG (fun w h => List.mem_cons_of_mem _ (iw_Linker w h)) (by decide) rfl rfl (by decide) rfl (by simp [sm_zs, sm_zP]) (hC.2.2.2.2 _ (List.mem_cons_of_mem _ aw_114)) d_Linker_init_71 ?_
  refine lv_iload_n hx hb d_Linker_init_74 rfl (lv_at hl 0 rfl) ?_
  refine lv_iconst (v := -1) hx hb d_Linker_init_75 (by decide) ?_
  refine sm_ciast hC hK h0 (by omega) hG (by decide) rfl (by unfold vp_in; decide) d_Linker_init_76 (fun H locs hG => ?_)
  have hG : sm_GP v (62) (sm_zs (sm_zs (sm_zs (sm_zs (sm_zP 45 (sm_zs (sm_zP 31 (sm_zs (sm_zP 17 (sm_zs (sm_zP 3 (sm_zs (Z) (1) 0)) 2 0)) 2 1)) 2 2)) 2 3) (1) 1) (1) 2) (1) 3) (sm_up (sm_up (sm_up (sm_up (M) 61 0 (-1)) 61 1 (-1)) 61 2 (-1)) 61 3 (-1)) s _ _ := hG
  refine lv_iinc (v := 4) (k := 0) hx hb d_Linker_init_77 hl rfl (by decide) (Nat.le_of_ble_eq_true rfl) rfl (fun ls hl => ?_)
  have hl : lv_has ls 2 [(1, .int (4 : Int32)), (0, .ref (sm_a v 1))] := hl
  refine lv_goto hx hb d_Linker_init_80 rfl ?_
  refine lv_iload_n hx hb d_Linker_init_64 rfl (lv_at hl 0 rfl) ?_
  refine lv_bipush (v := 16) hx hb d_Linker_init_65 (by decide) ?_
  refine lv_icmp_ge hx hb d_Linker_init_67 rfl (fun h => absurd h (by decide)) (fun _ => ?_)
  refine lv_aload_n hx hb d_Linker_init_70 rfl (lv_at hl 1 rfl) ?_
  refine sm_cgetr (C := R_Linker) (T := T_Linker) (N := 8) (j := 3) hC hK hG (fun w h => List.mem_cons_of_mem _ (iw_Linker w h)) (by decide) rfl rfl (by decide) rfl (by simp [sm_zs, sm_zP]) (hC.2.2.2.2 _ (List.mem_cons_of_mem _ aw_114)) d_Linker_init_71 ?_
  refine lv_iload_n hx hb d_Linker_init_74 rfl (lv_at hl 0 rfl) ?_
  refine lv_iconst (v := -1) hx hb d_Linker_init_75 (by decide) ?_
  refine sm_ciast hC hK h0 (by omega) hG (by decide) rfl (by unfold vp_in; decide) d_Linker_init_76 (fun H locs hG => ?_)
  have hG : sm_GP v (62) (sm_zs (sm_zs (sm_zs (sm_zs (sm_zP 45 (sm_zs (sm_zP 31 (sm_zs (sm_zP 17 (sm_zs (sm_zP 3 (sm_zs (Z) (1) 0)) 2 0)) 2 1)) 2 2)) 2 3) (1) 1) (1) 2) (1) 3) (sm_up (sm_up (sm_up (sm_up (sm_up (M) 61 0 (-1)) 61 1 (-1)) 61 2 (-1)) 61 3 (-1)) 61 4 (-1)) s _ _ := hG
  refine lv_iinc (v := 5) (k := 0) hx hb d_Linker_init_77 hl rfl (by decide) (Nat.le_of_ble_eq_true rfl) rfl (fun ls hl => ?_)
  have hl : lv_has ls 2 [(1, .int (5 : Int32)), (0, .ref (sm_a v 1))] := hl
  refine lv_goto hx hb d_Linker_init_80 rfl ?_
  refine lv_iload_n hx hb d_Linker_init_64 rfl (lv_at hl 0 rfl) ?_
  refine lv_bipush (v := 16) hx hb d_Linker_init_65 (by decide) ?_
  refine lv_icmp_ge hx hb d_Linker_init_67 rfl (fun h => absurd h (by decide)) (fun _ => ?_)
  refine lv_aload_n hx hb d_Linker_init_70 rfl (lv_at hl 1 rfl) ?_
  refine sm_cgetr (C := R_Linker) (T := T_Linker) (N := 8) (j := 3) hC hK hG (fun w h => List.mem_cons_of_mem _ (iw_Linker w h)) (by decide) rfl rfl (by decide) rfl (by simp [sm_zs, sm_zP]) (hC.2.2.2.2 _ (List.mem_cons_of_mem _ aw_114)) d_Linker_init_71 ?_
  refine lv_iload_n hx hb d_Linker_init_74 rfl (lv_at hl 0 rfl) ?_
  refine lv_iconst (v := -1) hx hb d_Linker_init_75 (by decide) ?_
  refine sm_ciast hC hK h0 (by omega) hG (by decide) rfl (by unfold vp_in; decide) d_Linker_init_76 (fun H locs hG => ?_)
  have hG : sm_GP v (62) (sm_zs (sm_zs (sm_zs (sm_zs (sm_zP 45 (sm_zs (sm_zP 31 (sm_zs (sm_zP 17 (sm_zs (sm_zP 3 (sm_zs (Z) (1) 0)) 2 0)) 2 1)) 2 2)) 2 3) (1) 1) (1) 2) (1) 3) (sm_up (sm_up (sm_up (sm_up (sm_up (sm_up (M) 61 0 (-1)) 61 1 (-1)) 61 2 (-1)) 61 3 (-1)) 61 4 (-1)) 61 5 (-1)) s _ _ := hG
  refine lv_iinc (v := 6) (k := 0) hx hb d_Linker_init_77 hl rfl (by decide) (Nat.le_of_ble_eq_true rfl) rfl (fun ls hl => ?_)
  have hl : lv_has ls 2 [(1, .int (6 : Int32)), (0, .ref (sm_a v 1))] := hl
  refine lv_goto hx hb d_Linker_init_80 rfl ?_
  refine lv_iload_n hx hb d_Linker_init_64 rfl (lv_at hl 0 rfl) ?_
  refine lv_bipush (v := 16) hx hb d_Linker_init_65 (by decide) ?_
  refine lv_icmp_ge hx hb d_Linker_init_67 rfl (fun h => absurd h (by decide)) (fun _ => ?_)
  refine lv_aload_n hx hb d_Linker_init_70 rfl (lv_at hl 1 rfl) ?_
  refine sm_cgetr (C := R_Linker) (T := T_Linker) (N := 8) (j := 3) hC hK hG (fun w h => List.mem_cons_of_mem _ (iw_Linker w h)) (by decide) rfl rfl (by decide) rfl (by simp [sm_zs, sm_zP]) (hC.2.2.2.2 _ (List.mem_cons_of_mem _ aw_114)) d_Linker_init_71 ?_
  refine lv_iload_n hx hb d_Linker_init_74 rfl (lv_at hl 0 rfl) ?_
  refine lv_iconst (v := -1) hx hb d_Linker_init_75 (by decide) ?_
  refine sm_ciast hC hK h0 (by omega) hG (by decide) rfl (by unfold vp_in; decide) d_Linker_init_76 (fun H locs hG => ?_)
  have hG : sm_GP v (62) (sm_zs (sm_zs (sm_zs (sm_zs (sm_zP 45 (sm_zs (sm_zP 31 (sm_zs (sm_zP 17 (sm_zs (sm_zP 3 (sm_zs (Z) (1) 0)) 2 0)) 2 1)) 2 2)) 2 3) (1) 1) (1) 2) (1) 3) (sm_up (sm_up (sm_up (sm_up (sm_up (sm_up (sm_up (M) 61 0 (-1)) 61 1 (-1)) 61 2 (-1)) 61 3 (-1)) 61 4 (-1)) 61 5 (-1)) 61 6 (-1)) s _ _ := hG
  refine lv_iinc (v := 7) (k := 0) hx hb d_Linker_init_77 hl rfl (by decide) (Nat.le_of_ble_eq_true rfl) rfl (fun ls hl => ?_)
  have hl : lv_has ls 2 [(1, .int (7 : Int32)), (0, .ref (sm_a v 1))] := hl
  refine lv_goto hx hb d_Linker_init_80 rfl ?_
  refine lv_iload_n hx hb d_Linker_init_64 rfl (lv_at hl 0 rfl) ?_
  refine lv_bipush (v := 16) hx hb d_Linker_init_65 (by decide) ?_
  refine lv_icmp_ge hx hb d_Linker_init_67 rfl (fun h => absurd h (by decide)) (fun _ => ?_)
  refine lv_aload_n hx hb d_Linker_init_70 rfl (lv_at hl 1 rfl) ?_
  refine sm_cgetr (C := R_Linker) (T := T_Linker) (N := 8) (j := 3) hC hK hG (fun w h => List.mem_cons_of_mem _ (iw_Linker w h)) (by decide) rfl rfl (by decide) rfl (by simp [sm_zs, sm_zP]) (hC.2.2.2.2 _ (List.mem_cons_of_mem _ aw_114)) d_Linker_init_71 ?_
  refine lv_iload_n hx hb d_Linker_init_74 rfl (lv_at hl 0 rfl) ?_
  refine lv_iconst (v := -1) hx hb d_Linker_init_75 (by decide) ?_
  refine sm_ciast hC hK h0 (by omega) hG (by decide) rfl (by unfold vp_in; decide) d_Linker_init_76 (fun H locs hG => ?_)
  have hG : sm_GP v (62) (sm_zs (sm_zs (sm_zs (sm_zs (sm_zP 45 (sm_zs (sm_zP 31 (sm_zs (sm_zP 17 (sm_zs (sm_zP 3 (sm_zs (Z) (1) 0)) 2 0)) 2 1)) 2 2)) 2 3) (1) 1) (1) 2) (1) 3) (sm_up (sm_up (sm_up (sm_up (sm_up (sm_up (sm_up (sm_up (M) 61 0 (-1)) 61 1 (-1)) 61 2 (-1)) 61 3 (-1)) 61 4 (-1)) 61 5 (-1)) 61 6 (-1)) 61 7 (-1)) s _ _ := hG
  refine lv_iinc (v := 8) (k := 0) hx hb d_Linker_init_77 hl rfl (by decide) (Nat.le_of_ble_eq_true rfl) rfl (fun ls hl => ?_)
  have hl : lv_has ls 2 [(1, .int (8 : Int32)), (0, .ref (sm_a v 1))] := hl
  refine lv_goto hx hb d_Linker_init_80 rfl ?_
  refine lv_iload_n hx hb d_Linker_init_64 rfl (lv_at hl 0 rfl) ?_
  refine lv_bipush (v := 16) hx hb d_Linker_init_65 (by decide) ?_
  refine lv_icmp_ge hx hb d_Linker_init_67 rfl (fun h => absurd h (by decide)) (fun _ => ?_)
  refine lv_aload_n hx hb d_Linker_init_70 rfl (lv_at hl 1 rfl) ?_
  refine sm_cgetr (C := R_Linker) (T := T_Linker) (N := 8) (j := 3) hC hK hG (fun w h => List.mem_cons_of_mem _ (iw_Linker w h)) (by decide) rfl rfl (by decide) rfl (by simp [sm_zs, sm_zP]) (hC.2.2.2.2 _ (List.mem_cons_of_mem _ aw_114)) d_Linker_init_71 ?_
  refine lv_iload_n hx hb d_Linker_init_74 rfl (lv_at hl 0 rfl) ?_
  refine lv_iconst (v := -1) hx hb d_Linker_init_75 (by decide) ?_
  refine sm_ciast hC hK h0 (by omega) hG (by decide) rfl (by unfold vp_in; decide) d_Linker_init_76 (fun H locs hG => ?_)
  have hG : sm_GP v (62) (sm_zs (sm_zs (sm_zs (sm_zs (sm_zP 45 (sm_zs (sm_zP 31 (sm_zs (sm_zP 17 (sm_zs (sm_zP 3 (sm_zs (Z) (1) 0)) 2 0)) 2 1)) 2 2)) 2 3) (1) 1) (1) 2) (1) 3) (sm_up (sm_up (sm_up (sm_up (sm_up (sm_up (sm_up (sm_up (sm_up (M) 61 0 (-1)) 61 1 (-1)) 61 2 (-1)) 61 3 (-1)) 61 4 (-1)) 61 5 (-1)) 61 6 (-1)) 61 7 (-1)) 61 8 (-1)) s _ _ := hG
  refine lv_iinc (v := 9) (k := 0) hx hb d_Linker_init_77 hl rfl (by decide) (Nat.le_of_ble_eq_true rfl) rfl (fun ls hl => ?_)
  have hl : lv_has ls 2 [(1, .int (9 : Int32)), (0, .ref (sm_a v 1))] := hl
  refine lv_goto hx hb d_Linker_init_80 rfl ?_
  refine lv_iload_n hx hb d_Linker_init_64 rfl (lv_at hl 0 rfl) ?_
  refine lv_bipush (v := 16) hx hb d_Linker_init_65 (by decide) ?_
  refine lv_icmp_ge hx hb d_Linker_init_67 rfl (fun h => absurd h (by decide)) (fun _ => ?_)
  refine lv_aload_n hx hb d_Linker_init_70 rfl (lv_at hl 1 rfl) ?_
  refine sm_cgetr (C := R_Linker) (T := T_Linker) (N := 8) (j := 3) hC hK hG (fun w h => List.mem_cons_of_mem _ (iw_Linker w h)) (by decide) rfl rfl (by decide) rfl (by simp [sm_zs, sm_zP]) (hC.2.2.2.2 _ (List.mem_cons_of_mem _ aw_114)) d_Linker_init_71 ?_
  refine lv_iload_n hx hb d_Linker_init_74 rfl (lv_at hl 0 rfl) ?_
  refine lv_iconst (v := -1) hx hb d_Linker_init_75 (by decide) ?_
  refine sm_ciast hC hK h0 (by omega) hG (by decide) rfl (by unfold vp_in; decide) d_Linker_init_76 (fun H locs hG => ?_)
  have hG : sm_GP v (62) (sm_zs (sm_zs (sm_zs (sm_zs (sm_zP 45 (sm_zs (sm_zP 31 (sm_zs (sm_zP 17 (sm_zs (sm_zP 3 (sm_zs (Z) (1) 0)) 2 0)) 2 1)) 2 2)) 2 3) (1) 1) (1) 2) (1) 3) (sm_up (sm_up (sm_up (sm_up (sm_up (sm_up (sm_up (sm_up (sm_up (sm_up (M) 61 0 (-1)) 61 1 (-1)) 61 2 (-1)) 61 3 (-1)) 61 4 (-1)) 61 5 (-1)) 61 6 (-1)) 61 7 (-1)) 61 8 (-1)) 61 9 (-1)) s _ _ := hG
  refine lv_iinc (v := 10) (k := 0) hx hb d_Linker_init_77 hl rfl (by decide) (Nat.le_of_ble_eq_true rfl) rfl (fun ls hl => ?_)
  have hl : lv_has ls 2 [(1, .int (10 : Int32)), (0, .ref (sm_a v 1))] := hl
  refine lv_goto hx hb d_Linker_init_80 rfl ?_
  refine lv_iload_n hx hb d_Linker_init_64 rfl (lv_at hl 0 rfl) ?_
  refine lv_bipush (v := 16) hx hb d_Linker_init_65 (by decide) ?_
  refine lv_icmp_ge hx hb d_Linker_init_67 rfl (fun h => absurd h (by decide)) (fun _ => ?_)
  refine lv_aload_n hx hb d_Linker_init_70 rfl (lv_at hl 1 rfl) ?_
  refine sm_cgetr (C := R_Linker) (T := T_Linker) (N := 8) (j := 3) hC hK hG (fun w h => List.mem_cons_of_mem _ (iw_Linker w h)) (by decide) rfl rfl (by decide) rfl (by simp [sm_zs, sm_zP]) (hC.2.2.2.2 _ (List.mem_cons_of_mem _ aw_114)) d_Linker_init_71 ?_
  refine lv_iload_n hx hb d_Linker_init_74 rfl (lv_at hl 0 rfl) ?_
  refine lv_iconst (v := -1) hx hb d_Linker_init_75 (by decide) ?_
  refine sm_ciast hC hK h0 (by omega) hG (by decide) rfl (by unfold vp_in; decide) d_Linker_init_76 (fun H locs hG => ?_)
  have hG : sm_GP v (62) (sm_zs (sm_zs (sm_zs (sm_zs (sm_zP 45 (sm_zs (sm_zP 31 (sm_zs (sm_zP 17 (sm_zs (sm_zP 3 (sm_zs (Z) (1) 0)) 2 0)) 2 1)) 2 2)) 2 3) (1) 1) (1) 2) (1) 3) (sm_up (sm_up (sm_up (sm_up (sm_up (sm_up (sm_up (sm_up (sm_up (sm_up (sm_up (M) 61 0 (-1)) 61 1 (-1)) 61 2 (-1)) 61 3 (-1)) 61 4 (-1)) 61 5 (-1)) 61 6 (-1)) 61 7 (-1)) 61 8 (-1)) 61 9 (-1)) 61 10 (-1)) s _ _ := hG
  refine lv_iinc (v := 11) (k := 0) hx hb d_Linker_init_77 hl rfl (by decide) (Nat.le_of_ble_eq_true rfl) rfl (fun ls hl => ?_)
  have hl : lv_has ls 2 [(1, .int (11 : Int32)), (0, .ref (sm_a v 1))] := hl
  refine lv_goto hx hb d_Linker_init_80 rfl ?_
  refine lv_iload_n hx hb d_Linker_init_64 rfl (lv_at hl 0 rfl) ?_
  refine lv_bipush (v := 16) hx hb d_Linker_init_65 (by decide) ?_
  refine lv_icmp_ge hx hb d_Linker_init_67 rfl (fun h => absurd h (by decide)) (fun _ => ?_)
  refine lv_aload_n hx hb d_Linker_init_70 rfl (lv_at hl 1 rfl) ?_
  refine sm_cgetr (C := R_Linker) (T := T_Linker) (N := 8) (j := 3) hC hK hG (fun w h => List.mem_cons_of_mem _ (iw_Linker w h)) (by decide) rfl rfl (by decide) rfl (by simp [sm_zs, sm_zP]) (hC.2.2.2.2 _ (List.mem_cons_of_mem _ aw_114)) d_Linker_init_71 ?_
  refine lv_iload_n hx hb d_Linker_init_74 rfl (lv_at hl 0 rfl) ?_
  refine lv_iconst (v := -1) hx hb d_Linker_init_75 (by decide) ?_
  refine sm_ciast hC hK h0 (by omega) hG (by decide) rfl (by unfold vp_in; decide) d_Linker_init_76 (fun H locs hG => ?_)
  have hG : sm_GP v (62) (sm_zs (sm_zs (sm_zs (sm_zs (sm_zP 45 (sm_zs (sm_zP 31 (sm_zs (sm_zP 17 (sm_zs (sm_zP 3 (sm_zs (Z) (1) 0)) 2 0)) 2 1)) 2 2)) 2 3) (1) 1) (1) 2) (1) 3) (sm_up (sm_up (sm_up (sm_up (sm_up (sm_up (sm_up (sm_up (sm_up (sm_up (sm_up (sm_up (M) 61 0 (-1)) 61 1 (-1)) 61 2 (-1)) 61 3 (-1)) 61 4 (-1)) 61 5 (-1)) 61 6 (-1)) 61 7 (-1)) 61 8 (-1)) 61 9 (-1)) 61 10 (-1)) 61 11 (-1)) s _ _ := hG
  refine lv_iinc (v := 12) (k := 0) hx hb d_Linker_init_77 hl rfl (by decide) (Nat.le_of_ble_eq_true rfl) rfl (fun ls hl => ?_)
  have hl : lv_has ls 2 [(1, .int (12 : Int32)), (0, .ref (sm_a v 1))] := hl
  refine lv_goto hx hb d_Linker_init_80 rfl ?_
  refine lv_iload_n hx hb d_Linker_init_64 rfl (lv_at hl 0 rfl) ?_
  refine lv_bipush (v := 16) hx hb d_Linker_init_65 (by decide) ?_
  refine lv_icmp_ge hx hb d_Linker_init_67 rfl (fun h => absurd h (by decide)) (fun _ => ?_)
  refine lv_aload_n hx hb d_Linker_init_70 rfl (lv_at hl 1 rfl) ?_
  refine sm_cgetr (C := R_Linker) (T := T_Linker) (N := 8) (j := 3) hC hK hG (fun w h => List.mem_cons_of_mem _ (iw_Linker w h)) (by decide) rfl rfl (by decide) rfl (by simp [sm_zs, sm_zP]) (hC.2.2.2.2 _ (List.mem_cons_of_mem _ aw_114)) d_Linker_init_71 ?_
  refine lv_iload_n hx hb d_Linker_init_74 rfl (lv_at hl 0 rfl) ?_
  refine lv_iconst (v := -1) hx hb d_Linker_init_75 (by decide) ?_
  refine sm_ciast hC hK h0 (by omega) hG (by decide) rfl (by unfold vp_in; decide) d_Linker_init_76 (fun H locs hG => ?_)
  have hG : sm_GP v (62) (sm_zs (sm_zs (sm_zs (sm_zs (sm_zP 45 (sm_zs (sm_zP 31 (sm_zs (sm_zP 17 (sm_zs (sm_zP 3 (sm_zs (Z) (1) 0)) 2 0)) 2 1)) 2 2)) 2 3) (1) 1) (1) 2) (1) 3) (sm_up (sm_up (sm_up (sm_up (sm_up (sm_up (sm_up (sm_up (sm_up (sm_up (sm_up (sm_up (sm_up (M) 61 0 (-1)) 61 1 (-1)) 61 2 (-1)) 61 3 (-1)) 61 4 (-1)) 61 5 (-1)) 61 6 (-1)) 61 7 (-1)) 61 8 (-1)) 61 9 (-1)) 61 10 (-1)) 61 11 (-1)) 61 12 (-1)) s _ _ := hG
  refine lv_iinc (v := 13) (k := 0) hx hb d_Linker_init_77 hl rfl (by decide) (Nat.le_of_ble_eq_true rfl) rfl (fun ls hl => ?_)
  have hl : lv_has ls 2 [(1, .int (13 : Int32)), (0, .ref (sm_a v 1))] := hl
  refine lv_goto hx hb d_Linker_init_80 rfl ?_
  refine lv_iload_n hx hb d_Linker_init_64 rfl (lv_at hl 0 rfl) ?_
  refine lv_bipush (v := 16) hx hb d_Linker_init_65 (by decide) ?_
  refine lv_icmp_ge hx hb d_Linker_init_67 rfl (fun h => absurd h (by decide)) (fun _ => ?_)
  refine lv_aload_n hx hb d_Linker_init_70 rfl (lv_at hl 1 rfl) ?_
  refine sm_cgetr (C := R_Linker) (T := T_Linker) (N := 8) (j := 3) hC hK hG (fun w h => List.mem_cons_of_mem _ (iw_Linker w h)) (by decide) rfl rfl (by decide) rfl (by simp [sm_zs, sm_zP]) (hC.2.2.2.2 _ (List.mem_cons_of_mem _ aw_114)) d_Linker_init_71 ?_
  refine lv_iload_n hx hb d_Linker_init_74 rfl (lv_at hl 0 rfl) ?_
  refine lv_iconst (v := -1) hx hb d_Linker_init_75 (by decide) ?_
  refine sm_ciast hC hK h0 (by omega) hG (by decide) rfl (by unfold vp_in; decide) d_Linker_init_76 (fun H locs hG => ?_)
  have hG : sm_GP v (62) (sm_zs (sm_zs (sm_zs (sm_zs (sm_zP 45 (sm_zs (sm_zP 31 (sm_zs (sm_zP 17 (sm_zs (sm_zP 3 (sm_zs (Z) (1) 0)) 2 0)) 2 1)) 2 2)) 2 3) (1) 1) (1) 2) (1) 3) (sm_up (sm_up (sm_up (sm_up (sm_up (sm_up (sm_up (sm_up (sm_up (sm_up (sm_up (sm_up (sm_up (sm_up (M) 61 0 (-1)) 61 1 (-1)) 61 2 (-1)) 61 3 (-1)) 61 4 (-1)) 61 5 (-1)) 61 6 (-1)) 61 7 (-1)) 61 8 (-1)) 61 9 (-1)) 61 10 (-1)) 61 11 (-1)) 61 12 (-1)) 61 13 (-1)) s _ _ := hG
  refine lv_iinc (v := 14) (k := 0) hx hb d_Linker_init_77 hl rfl (by decide) (Nat.le_of_ble_eq_true rfl) rfl (fun ls hl => ?_)
  have hl : lv_has ls 2 [(1, .int (14 : Int32)), (0, .ref (sm_a v 1))] := hl
  refine lv_goto hx hb d_Linker_init_80 rfl ?_
  refine lv_iload_n hx hb d_Linker_init_64 rfl (lv_at hl 0 rfl) ?_
  refine lv_bipush (v := 16) hx hb d_Linker_init_65 (by decide) ?_
  refine lv_icmp_ge hx hb d_Linker_init_67 rfl (fun h => absurd h (by decide)) (fun _ => ?_)
  refine lv_aload_n hx hb d_Linker_init_70 rfl (lv_at hl 1 rfl) ?_
  refine sm_cgetr (C := R_Linker) (T := T_Linker) (N := 8) (j := 3) hC hK hG (fun w h => List.mem_cons_of_mem _ (iw_Linker w h)) (by decide) rfl rfl (by decide) rfl (by simp [sm_zs, sm_zP]) (hC.2.2.2.2 _ (List.mem_cons_of_mem _ aw_114)) d_Linker_init_71 ?_
  refine lv_iload_n hx hb d_Linker_init_74 rfl (lv_at hl 0 rfl) ?_
  refine lv_iconst (v := -1) hx hb d_Linker_init_75 (by decide) ?_
  refine sm_ciast hC hK h0 (by omega) hG (by decide) rfl (by unfold vp_in; decide) d_Linker_init_76 (fun H locs hG => ?_)
  have hG : sm_GP v (62) (sm_zs (sm_zs (sm_zs (sm_zs (sm_zP 45 (sm_zs (sm_zP 31 (sm_zs (sm_zP 17 (sm_zs (sm_zP 3 (sm_zs (Z) (1) 0)) 2 0)) 2 1)) 2 2)) 2 3) (1) 1) (1) 2) (1) 3) (sm_up (sm_up (sm_up (sm_up (sm_up (sm_up (sm_up (sm_up (sm_up (sm_up (sm_up (sm_up (sm_up (sm_up (sm_up (M) 61 0 (-1)) 61 1 (-1)) 61 2 (-1)) 61 3 (-1)) 61 4 (-1)) 61 5 (-1)) 61 6 (-1)) 61 7 (-1)) 61 8 (-1)) 61 9 (-1)) 61 10 (-1)) 61 11 (-1)) 61 12 (-1)) 61 13 (-1)) 61 14 (-1)) s _ _ := hG
  refine lv_iinc (v := 15) (k := 0) hx hb d_Linker_init_77 hl rfl (by decide) (Nat.le_of_ble_eq_true rfl) rfl (fun ls hl => ?_)
  have hl : lv_has ls 2 [(1, .int (15 : Int32)), (0, .ref (sm_a v 1))] := hl
  refine lv_goto hx hb d_Linker_init_80 rfl ?_
  refine lv_iload_n hx hb d_Linker_init_64 rfl (lv_at hl 0 rfl) ?_
  refine lv_bipush (v := 16) hx hb d_Linker_init_65 (by decide) ?_
  refine lv_icmp_ge hx hb d_Linker_init_67 rfl (fun h => absurd h (by decide)) (fun _ => ?_)
  refine lv_aload_n hx hb d_Linker_init_70 rfl (lv_at hl 1 rfl) ?_
  refine sm_cgetr (C := R_Linker) (T := T_Linker) (N := 8) (j := 3) hC hK hG (fun w h => List.mem_cons_of_mem _ (iw_Linker w h)) (by decide) rfl rfl (by decide) rfl (by simp [sm_zs, sm_zP]) (hC.2.2.2.2 _ (List.mem_cons_of_mem _ aw_114)) d_Linker_init_71 ?_
  refine lv_iload_n hx hb d_Linker_init_74 rfl (lv_at hl 0 rfl) ?_
  refine lv_iconst (v := -1) hx hb d_Linker_init_75 (by decide) ?_
  refine sm_ciast hC hK h0 (by omega) hG (by decide) rfl (by unfold vp_in; decide) d_Linker_init_76 (fun H locs hG => ?_)
  have hG : sm_GP v (62) (sm_zs (sm_zs (sm_zs (sm_zs (sm_zP 45 (sm_zs (sm_zP 31 (sm_zs (sm_zP 17 (sm_zs (sm_zP 3 (sm_zs (Z) (1) 0)) 2 0)) 2 1)) 2 2)) 2 3) (1) 1) (1) 2) (1) 3) (sm_up (sm_up (sm_up (sm_up (sm_up (sm_up (sm_up (sm_up (sm_up (sm_up (sm_up (sm_up (sm_up (sm_up (sm_up (sm_up (M) 61 0 (-1)) 61 1 (-1)) 61 2 (-1)) 61 3 (-1)) 61 4 (-1)) 61 5 (-1)) 61 6 (-1)) 61 7 (-1)) 61 8 (-1)) 61 9 (-1)) 61 10 (-1)) 61 11 (-1)) 61 12 (-1)) 61 13 (-1)) 61 14 (-1)) 61 15 (-1)) s _ _ := hG
  refine lv_iinc (v := 16) (k := 0) hx hb d_Linker_init_77 hl rfl (by decide) (Nat.le_of_ble_eq_true rfl) rfl (fun ls hl => ?_)
  have hl : lv_has ls 2 [(1, .int (16 : Int32)), (0, .ref (sm_a v 1))] := hl
  refine lv_goto hx hb d_Linker_init_80 rfl ?_
  refine lv_iload_n hx hb d_Linker_init_64 rfl (lv_at hl 0 rfl) ?_
  refine lv_bipush (v := 16) hx hb d_Linker_init_65 (by decide) ?_
  refine lv_icmp_ge hx hb d_Linker_init_67 rfl (fun _ => ?_) (fun h => absurd (by decide) h)
  exact sm_vretP hC hr hlk hG d_Linker_init_83
abbrev w_Image_init : List Cond := Cond.code y_Image_init b_Image_init 1 none :: sm_AW
def sm_zImage (Z : sm_ZT) : sm_ZT := sm_zs (Z) (62) 0
abbrev rm_Image_init : Room := { frames := 1, cells := 1, slots := 1000, locals := 12 }
set_option maxHeartbeats 4000000 in
set_option maxRecDepth 100000 in
theorem c_Image_init {l : Launch} {v : sm_V} {Z : sm_ZT} {M : sm_M} : sm_Kc l y_Image_init w_Image_init rm_Image_init v [.ref (sm_a v 62)] 63 Z M 64 (sm_zImage Z) (M) 1 1000 := by
  refine sm_metP (cc := b_Image_init) (nL := 1) (ret := none) (plainFor_of_name (by decide)) rfl rfl (Nat.le_of_ble_eq_true rfl) (fun p e s m args below meth c hC hr hlk hnm hK hAO h0 hG ls hl => ?_)
  have hx := hC.1
  have hb := hC.2.1
  have hl : lv_has ls 1 [(0, .ref (sm_a v 62))] := hl
  refine lv_aload_n hx hb d_Image_init_0 rfl (lv_at hl 0 rfl) ?_
  refine sm_objI hC aw_142 aw_24 aw_25 hl.1 ⟨Nat.le_of_ble_eq_true rfl, Nat.le_of_ble_eq_true rfl⟩ d_Image_init_1 ?_
  refine lv_aload_n hx hb d_Image_init_4 rfl (lv_at hl 0 rfl) ?_
  refine lv_sipush (v := 1000) hx hb d_Image_init_5 (by decide) ?_
  refine sm_cnewI hC hK hG rfl (hC.2.2.2.2 _ (List.mem_cons_of_mem _ aw_56)) (by decide) (by decide) (by decide) (Nat.le_of_ble_eq_true rfl) (Nat.le_of_ble_eq_true rfl) d_Image_init_8 (fun H hG => ?_)
  refine W.cs (cells' := 1) (slots' := 1000) (by omega) (by omega) ?_
  have hG : sm_GP v (64) (Z) (M) s _ _ := hG
  refine sm_cputF (C := R_Image) (T := T_Image) (N := 2) (j := 0) (ty := t_Image 0) t_Image t_Image_ok n_Image hC hK hnm h0 (by omega) hG (fun w h => List.mem_cons_of_mem _ (iw_Image w h)) (by decide) rfl rfl (by decide) rfl rfl rfl (t_Image_ok 0 (by decide)) (fun _ => rfl) (fun _ => rfl) (hC.2.2.2.2 _ (List.mem_cons_of_mem _ aw_143)) d_Image_init_10 (fun H locs hG => ?_)
  have hG : sm_GP v (64) (sm_zs (Z) (62) 0) (M) s _ _ := hG
  exact sm_vretP hC hr hlk hG d_Image_init_13
abbrev w_Machine_init : List Cond := Cond.code y_Machine_init b_Machine_init 1 none :: sm_AW
def sm_zMachine (Z : sm_ZT) : sm_ZT := sm_zs (sm_zs (sm_zs (Z) (64) 0) (64) 1) (64) 2
abbrev rm_Machine_init : Room := { frames := 1, cells := 3, slots := 289, locals := 12 }
set_option maxHeartbeats 4000000 in
set_option maxRecDepth 100000 in
theorem c_Machine_init {l : Launch} {v : sm_V} {Z : sm_ZT} {M : sm_M} : sm_Kc l y_Machine_init w_Machine_init rm_Machine_init v [.ref (sm_a v 64)] 65 Z M 68 (sm_zMachine Z) (M) 3 289 := by
  refine sm_metP (cc := b_Machine_init) (nL := 1) (ret := none) (plainFor_of_name (by decide)) rfl rfl (Nat.le_of_ble_eq_true rfl) (fun p e s m args below meth c hC hr hlk hnm hK hAO h0 hG ls hl => ?_)
  have hx := hC.1
  have hb := hC.2.1
  have hl : lv_has ls 1 [(0, .ref (sm_a v 64))] := hl
  refine lv_aload_n hx hb d_Machine_init_0 rfl (lv_at hl 0 rfl) ?_
  refine sm_objI hC aw_159 aw_24 aw_25 hl.1 ⟨Nat.le_of_ble_eq_true rfl, Nat.le_of_ble_eq_true rfl⟩ d_Machine_init_1 ?_
  refine lv_aload_n hx hb d_Machine_init_4 rfl (lv_at hl 0 rfl) ?_
  refine lv_sipush (v := 241) hx hb d_Machine_init_5 (by decide) ?_
  refine sm_cnewI hC hK hG rfl (hC.2.2.2.2 _ (List.mem_cons_of_mem _ aw_56)) (by decide) (by decide) (by decide) (Nat.le_of_ble_eq_true rfl) (Nat.le_of_ble_eq_true rfl) d_Machine_init_8 (fun H hG => ?_)
  refine W.cs (cells' := 1) (slots' := 241) (by omega) (by omega) ?_
  have hG : sm_GP v (66) (Z) (M) s _ _ := hG
  refine sm_cputF (C := R_Machine) (T := T_Machine) (N := 11) (j := 0) (ty := t_Machine 0) t_Machine t_Machine_ok n_Machine hC hK hnm h0 (by omega) hG (fun w h => List.mem_cons_of_mem _ (iw_Machine w h)) (by decide) rfl rfl (by decide) rfl rfl rfl (t_Machine_ok 0 (by decide)) (fun _ => rfl) (fun _ => rfl) (hC.2.2.2.2 _ (List.mem_cons_of_mem _ aw_160)) d_Machine_init_10 (fun H locs hG => ?_)
  have hG : sm_GP v (66) (sm_zs (Z) (64) 0) (M) s _ _ := hG
  refine lv_aload_n hx hb d_Machine_init_13 rfl (lv_at hl 0 rfl) ?_
  refine lv_bipush (v := 32) hx hb d_Machine_init_14 (by decide) ?_
  refine sm_cnewI hC hK hG rfl (hC.2.2.2.2 _ (List.mem_cons_of_mem _ aw_56)) (by decide) (by decide) (by decide) (Nat.le_of_ble_eq_true rfl) (Nat.le_of_ble_eq_true rfl) d_Machine_init_16 (fun H hG => ?_)
  refine W.cs (cells' := 2) (slots' := 273) (by omega) (by omega) ?_
  have hG : sm_GP v (67) (sm_zs (Z) (64) 0) (M) s _ _ := hG
  refine sm_cputF (C := R_Machine) (T := T_Machine) (N := 11) (j := 1) (ty := t_Machine 1) t_Machine t_Machine_ok n_Machine hC hK hnm h0 (by omega) hG (fun w h => List.mem_cons_of_mem _ (iw_Machine w h)) (by decide) rfl rfl (by decide) rfl rfl rfl (t_Machine_ok 1 (by decide)) (fun _ => rfl) (fun _ => rfl) (hC.2.2.2.2 _ (List.mem_cons_of_mem _ aw_162)) d_Machine_init_18 (fun H locs hG => ?_)
  have hG : sm_GP v (67) (sm_zs (sm_zs (Z) (64) 0) (64) 1) (M) s _ _ := hG
  refine lv_aload_n hx hb d_Machine_init_21 rfl (lv_at hl 0 rfl) ?_
  refine lv_bipush (v := 16) hx hb d_Machine_init_22 (by decide) ?_
  refine sm_cnewI hC hK hG rfl (hC.2.2.2.2 _ (List.mem_cons_of_mem _ aw_56)) (by decide) (by decide) (by decide) (Nat.le_of_ble_eq_true rfl) (Nat.le_of_ble_eq_true rfl) d_Machine_init_24 (fun H hG => ?_)
  refine W.cs (cells' := 3) (slots' := 289) (by omega) (by omega) ?_
  have hG : sm_GP v (68) (sm_zs (sm_zs (Z) (64) 0) (64) 1) (M) s _ _ := hG
  refine sm_cputF (C := R_Machine) (T := T_Machine) (N := 11) (j := 2) (ty := t_Machine 2) t_Machine t_Machine_ok n_Machine hC hK hnm h0 (by omega) hG (fun w h => List.mem_cons_of_mem _ (iw_Machine w h)) (by decide) rfl rfl (by decide) rfl rfl rfl (t_Machine_ok 2 (by decide)) (fun _ => rfl) (fun _ => rfl) (hC.2.2.2.2 _ (List.mem_cons_of_mem _ aw_164)) d_Machine_init_26 (fun H locs hG => ?_)
  have hG : sm_GP v (68) (sm_zs (sm_zs (sm_zs (Z) (64) 0) (64) 1) (64) 2) (M) s _ _ := hG
  exact sm_vretP hC hr hlk hG d_Machine_init_29
abbrev w_Mill_init : List Cond := Cond.code y_Mill_init b_Mill_init 1 none :: sm_AW
def sm_zMill (Z : sm_ZT) : sm_ZT := sm_zs (sm_zMachine (sm_zs (sm_zImage (sm_zs (sm_zLinker (Z)) (0) 0)) (0) 1)) (0) 2
abbrev rm_Mill_init : Room := { frames := 4, cells := 67, slots := 2014, locals := 74 }
set_option maxHeartbeats 4000000 in
set_option maxRecDepth 100000 in
theorem c_Mill_init {l : Launch} {v : sm_V} {Z : sm_ZT} {M : sm_M} : sm_Kc l y_Mill_init w_Mill_init rm_Mill_init v [.ref (sm_a v 0)] 1 Z M 68 (sm_zMill Z) (sm_mLinker M) 67 2014 := by
  refine sm_metP (cc := b_Mill_init) (nL := 1) (ret := none) (plainFor_of_name (by decide)) rfl rfl (Nat.le_of_ble_eq_true rfl) (fun p e s m args below meth c hC hr hlk hnm hK hAO h0 hG ls hl => ?_)
  have hx := hC.1
  have hb := hC.2.1
  have hl : lv_has ls 1 [(0, .ref (sm_a v 0))] := hl
  refine lv_aload_n hx hb d_Mill_init_0 rfl (lv_at hl 0 rfl) ?_
  refine sm_objI hC aw_23 aw_24 aw_25 hl.1 ⟨Nat.le_of_ble_eq_true rfl, Nat.le_of_ble_eq_true rfl⟩ d_Mill_init_1 ?_
  refine lv_aload_n hx hb d_Mill_init_4 rfl (lv_at hl 0 rfl) ?_
  refine sm_cnew (C := R_Linker) (T := T_Linker) (N := 8) t_Linker t_Linker_ok hC hK hG (fun w h => List.mem_cons_of_mem _ (iw_Linker w h)) rfl rfl (sm_df_Linker _) (hC.2.2.2.2 _ (List.mem_cons_of_mem _ aw_26)) (hC.2.2.2.2 _ (List.mem_cons_of_mem _ aw_27)) (hC.2.2.2.2 _ (List.mem_cons_of_mem _ aw_2)) (Nat.le_of_ble_eq_true rfl) (Nat.le_of_ble_eq_true rfl) d_Mill_init_5 (fun H hG => ?_)
  refine W.cs (cells' := 1) (slots' := 8) (by omega) (by omega) ?_
  have hG : sm_GP v (2) (Z) (M) s _ _ := hG
  refine lv_dup hx hb d_Mill_init_8 rfl ?_
  refine sm_callI (va_runI (As := []) (rest := [.ref (sm_a v 1), .ref (sm_a v 0)]) hC (c_Linker_init) (cwI 0 hC.2.2.2.2 (sm_good (sm_inC aw_30)) rfl rfl rfl (hC.2.2.2.2 _ (List.mem_cons_of_mem _ aw_2)) (hC.2.2.2.2 _ (List.mem_cons_of_mem _ aw_28)) (hC.2.2.2.2 _ (List.mem_cons_of_mem _ aw_29)) rfl (by decide +kernel) ⟨Nat.le_of_ble_eq_true rfl, Nat.le_of_ble_eq_true rfl⟩) (sm_preI hK hAO hG) rfl rfl hl.1 rfl (lv_room (Nat.le_of_ble_eq_true rfl)) d_Mill_init_9 ⟨Nat.le_of_ble_eq_true rfl, Nat.le_of_ble_eq_true rfl⟩) hG (fun H locs hG => ?_)
  refine W.cs (cells' := 61) (slots' := 712) (by omega) (by omega) ?_
  have hG : sm_GP v (62) (sm_zLinker (Z)) (sm_mLinker M) s _ _ := hG
  refine sm_cputF (C := R_Mill) (T := T_Mill) (N := 3) (j := 0) (ty := t_Mill 0) t_Mill t_Mill_ok n_Mill hC hK hnm h0 (by omega) hG (fun w h => List.mem_cons_of_mem _ (iw_Mill w h)) (by decide) rfl rfl (by decide) rfl rfl rfl (t_Mill_ok 0 (by decide)) (fun _ => rfl) (fun _ => rfl) (hC.2.2.2.2 _ (List.mem_cons_of_mem _ aw_200)) d_Mill_init_12 (fun H locs hG => ?_)
  have hG : sm_GP v (62) (sm_zs (sm_zLinker (Z)) (0) 0) (sm_mLinker M) s _ _ := hG
  refine lv_aload_n hx hb d_Mill_init_15 rfl (lv_at hl 0 rfl) ?_
  refine sm_cnew (C := R_Image) (T := T_Image) (N := 2) t_Image t_Image_ok hC hK hG (fun w h => List.mem_cons_of_mem _ (iw_Image w h)) rfl rfl (sm_df_Image _) (hC.2.2.2.2 _ (List.mem_cons_of_mem _ aw_137)) (hC.2.2.2.2 _ (List.mem_cons_of_mem _ aw_138)) (hC.2.2.2.2 _ (List.mem_cons_of_mem _ aw_5)) (Nat.le_of_ble_eq_true rfl) (Nat.le_of_ble_eq_true rfl) d_Mill_init_16 (fun H hG => ?_)
  refine W.cs (cells' := 62) (slots' := 714) (by omega) (by omega) ?_
  have hG : sm_GP v (63) (sm_zs (sm_zLinker (Z)) (0) 0) (sm_mLinker M) s _ _ := hG
  refine lv_dup hx hb d_Mill_init_19 rfl ?_
  refine sm_callI (va_runI (As := []) (rest := [.ref (sm_a v 62), .ref (sm_a v 0)]) hC (c_Image_init) (cwI 0 hC.2.2.2.2 (sm_good (sm_inC aw_141)) rfl rfl rfl (hC.2.2.2.2 _ (List.mem_cons_of_mem _ aw_5)) (hC.2.2.2.2 _ (List.mem_cons_of_mem _ aw_139)) (hC.2.2.2.2 _ (List.mem_cons_of_mem _ aw_140)) rfl (by decide +kernel) ⟨Nat.le_of_ble_eq_true rfl, Nat.le_of_ble_eq_true rfl⟩) (sm_preI hK hAO hG) rfl rfl hl.1 rfl (lv_room (Nat.le_of_ble_eq_true rfl)) d_Mill_init_20 ⟨Nat.le_of_ble_eq_true rfl, Nat.le_of_ble_eq_true rfl⟩) hG (fun H locs hG => ?_)
  refine W.cs (cells' := 63) (slots' := 1714) (by omega) (by omega) ?_
  have hG : sm_GP v (64) (sm_zImage (sm_zs (sm_zLinker (Z)) (0) 0)) ((sm_mLinker M)) s _ _ := hG
  refine sm_cputF (C := R_Mill) (T := T_Mill) (N := 3) (j := 1) (ty := t_Mill 1) t_Mill t_Mill_ok n_Mill hC hK hnm h0 (by omega) hG (fun w h => List.mem_cons_of_mem _ (iw_Mill w h)) (by decide) rfl rfl (by decide) rfl rfl rfl (t_Mill_ok 1 (by decide)) (fun _ => rfl) (fun _ => rfl) (hC.2.2.2.2 _ (List.mem_cons_of_mem _ aw_201)) d_Mill_init_23 (fun H locs hG => ?_)
  have hG : sm_GP v (64) (sm_zs (sm_zImage (sm_zs (sm_zLinker (Z)) (0) 0)) (0) 1) ((sm_mLinker M)) s _ _ := hG
  refine lv_aload_n hx hb d_Mill_init_26 rfl (lv_at hl 0 rfl) ?_
  refine sm_cnew (C := R_Machine) (T := T_Machine) (N := 11) t_Machine t_Machine_ok hC hK hG (fun w h => List.mem_cons_of_mem _ (iw_Machine w h)) rfl rfl (sm_df_Machine _) (hC.2.2.2.2 _ (List.mem_cons_of_mem _ aw_154)) (hC.2.2.2.2 _ (List.mem_cons_of_mem _ aw_155)) (hC.2.2.2.2 _ (List.mem_cons_of_mem _ aw_6)) (Nat.le_of_ble_eq_true rfl) (Nat.le_of_ble_eq_true rfl) d_Mill_init_27 (fun H hG => ?_)
  refine W.cs (cells' := 64) (slots' := 1725) (by omega) (by omega) ?_
  have hG : sm_GP v (65) (sm_zs (sm_zImage (sm_zs (sm_zLinker (Z)) (0) 0)) (0) 1) ((sm_mLinker M)) s _ _ := hG
  refine lv_dup hx hb d_Mill_init_30 rfl ?_
  refine sm_callI (va_runI (As := []) (rest := [.ref (sm_a v 64), .ref (sm_a v 0)]) hC (c_Machine_init) (cwI 0 hC.2.2.2.2 (sm_good (sm_inC aw_158)) rfl rfl rfl (hC.2.2.2.2 _ (List.mem_cons_of_mem _ aw_6)) (hC.2.2.2.2 _ (List.mem_cons_of_mem _ aw_156)) (hC.2.2.2.2 _ (List.mem_cons_of_mem _ aw_157)) rfl (by decide +kernel) ⟨Nat.le_of_ble_eq_true rfl, Nat.le_of_ble_eq_true rfl⟩) (sm_preI hK hAO hG) rfl rfl hl.1 rfl (lv_room (Nat.le_of_ble_eq_true rfl)) d_Mill_init_31 ⟨Nat.le_of_ble_eq_true rfl, Nat.le_of_ble_eq_true rfl⟩) hG (fun H locs hG => ?_)
  refine W.cs (cells' := 67) (slots' := 2014) (by omega) (by omega) ?_
  have hG : sm_GP v (68) (sm_zMachine (sm_zs (sm_zImage (sm_zs (sm_zLinker (Z)) (0) 0)) (0) 1)) (((sm_mLinker M))) s _ _ := hG
  refine sm_cputF (C := R_Mill) (T := T_Mill) (N := 3) (j := 2) (ty := t_Mill 2) t_Mill t_Mill_ok n_Mill hC hK hnm h0 (by omega) hG (fun w h => List.mem_cons_of_mem _ (iw_Mill w h)) (by decide) rfl rfl (by decide) rfl rfl rfl (t_Mill_ok 2 (by decide)) (fun _ => rfl) (fun _ => rfl) (hC.2.2.2.2 _ (List.mem_cons_of_mem _ aw_202)) d_Mill_init_34 (fun H locs hG => ?_)
  have hG : sm_GP v (68) (sm_zs (sm_zMachine (sm_zs (sm_zImage (sm_zs (sm_zLinker (Z)) (0) 0)) (0) 1)) (0) 2) (((sm_mLinker M))) s _ _ := hG
  exact sm_vretP hC hr hlk hG d_Mill_init_37
abbrev w_Model_init : List Cond := Cond.code y_Model_init b_Model_init 1 none :: sm_AW
def sm_zModel (Z : sm_ZT) : sm_ZT := sm_zs (sm_zs (sm_zs (sm_zs (sm_zs (sm_zs (sm_zs (sm_zs (sm_zs (sm_zs (sm_zs (sm_zs (sm_zs (sm_zs (sm_zs (sm_zs (sm_zs (sm_zs (sm_zs (sm_zs (sm_zs (Z) (68) 1) (68) 2) (68) 3) (68) 4) (68) 5) (68) 6) (68) 7) (68) 8) (68) 9) (68) 10) (68) 11) (68) 12) (68) 13) (68) 14) (68) 15) (68) 16) (68) 17) (68) 19) (68) 24) (68) 28) (68) 30
abbrev rm_Model_init : Room := { frames := 1, cells := 21, slots := 2186, locals := 12 }
set_option maxHeartbeats 4000000 in
set_option maxRecDepth 100000 in
theorem c_Model_init {l : Launch} {v : sm_V} {Z : sm_ZT} {M : sm_M} : sm_Kc l y_Model_init w_Model_init rm_Model_init v [.ref (sm_a v 68)] 69 Z M 90 (sm_zModel Z) (M) 21 2186 := by
  refine sm_metP (cc := b_Model_init) (nL := 1) (ret := none) (plainFor_of_name (by decide)) rfl rfl (Nat.le_of_ble_eq_true rfl) (fun p e s m args below meth c hC hr hlk hnm hK hAO h0 hG ls hl => ?_)
  have hx := hC.1
  have hb := hC.2.1
  have hl : lv_has ls 1 [(0, .ref (sm_a v 68))] := hl
  refine lv_aload_n hx hb d_Model_init_0 rfl (lv_at hl 0 rfl) ?_
  refine sm_objI hC aw_686 aw_24 aw_25 hl.1 ⟨Nat.le_of_ble_eq_true rfl, Nat.le_of_ble_eq_true rfl⟩ d_Model_init_1 ?_
  refine lv_aload_n hx hb d_Model_init_4 rfl (lv_at hl 0 rfl) ?_
  refine lv_sipush (v := 192) hx hb d_Model_init_5 (by decide) ?_
  refine sm_cnewI hC hK hG rfl (hC.2.2.2.2 _ (List.mem_cons_of_mem _ aw_56)) (by decide) (by decide) (by decide) (Nat.le_of_ble_eq_true rfl) (Nat.le_of_ble_eq_true rfl) d_Model_init_8 (fun H hG => ?_)
  refine W.cs (cells' := 1) (slots' := 192) (by omega) (by omega) ?_
  have hG : sm_GP v (70) (Z) (M) s _ _ := hG
  refine sm_cputF (C := R_Model) (T := T_Model) (N := 31) (j := 1) (ty := t_Model 1) t_Model t_Model_ok n_Model hC hK hnm h0 (by omega) hG (fun w h => List.mem_cons_of_mem _ (iw_Model w h)) (by decide) rfl rfl (by decide) rfl rfl rfl (t_Model_ok 1 (by decide)) (fun _ => rfl) (fun _ => rfl) (hC.2.2.2.2 _ (List.mem_cons_of_mem _ aw_688)) d_Model_init_10 (fun H locs hG => ?_)
  have hG : sm_GP v (70) (sm_zs (Z) (68) 1) (M) s _ _ := hG
  refine lv_aload_n hx hb d_Model_init_13 rfl (lv_at hl 0 rfl) ?_
  refine lv_bipush (v := 8) hx hb d_Model_init_14 (by decide) ?_
  refine sm_cnewI hC hK hG rfl (hC.2.2.2.2 _ (List.mem_cons_of_mem _ aw_56)) (by decide) (by decide) (by decide) (Nat.le_of_ble_eq_true rfl) (Nat.le_of_ble_eq_true rfl) d_Model_init_16 (fun H hG => ?_)
  refine W.cs (cells' := 2) (slots' := 200) (by omega) (by omega) ?_
  have hG : sm_GP v (71) (sm_zs (Z) (68) 1) (M) s _ _ := hG
  refine sm_cputF (C := R_Model) (T := T_Model) (N := 31) (j := 2) (ty := t_Model 2) t_Model t_Model_ok n_Model hC hK hnm h0 (by omega) hG (fun w h => List.mem_cons_of_mem _ (iw_Model w h)) (by decide) rfl rfl (by decide) rfl rfl rfl (t_Model_ok 2 (by decide)) (fun _ => rfl) (fun _ => rfl) (hC.2.2.2.2 _ (List.mem_cons_of_mem _ aw_689)) d_Model_init_18 (fun H locs hG => ?_)
  have hG : sm_GP v (71) (sm_zs (sm_zs (Z) (68) 1) (68) 2) (M) s _ _ := hG
  refine lv_aload_n hx hb d_Model_init_21 rfl (lv_at hl 0 rfl) ?_
  refine lv_iconst (v := 4) hx hb d_Model_init_22 (by decide) ?_
  refine sm_cnewI hC hK hG rfl (hC.2.2.2.2 _ (List.mem_cons_of_mem _ aw_56)) (by decide) (by decide) (by decide) (Nat.le_of_ble_eq_true rfl) (Nat.le_of_ble_eq_true rfl) d_Model_init_23 (fun H hG => ?_)
  refine W.cs (cells' := 3) (slots' := 204) (by omega) (by omega) ?_
  have hG : sm_GP v (72) (sm_zs (sm_zs (Z) (68) 1) (68) 2) (M) s _ _ := hG
  refine sm_cputF (C := R_Model) (T := T_Model) (N := 31) (j := 3) (ty := t_Model 3) t_Model t_Model_ok n_Model hC hK hnm h0 (by omega) hG (fun w h => List.mem_cons_of_mem _ (iw_Model w h)) (by decide) rfl rfl (by decide) rfl rfl rfl (t_Model_ok 3 (by decide)) (fun _ => rfl) (fun _ => rfl) (hC.2.2.2.2 _ (List.mem_cons_of_mem _ aw_690)) d_Model_init_25 (fun H locs hG => ?_)
  have hG : sm_GP v (72) (sm_zs (sm_zs (sm_zs (Z) (68) 1) (68) 2) (68) 3) (M) s _ _ := hG
  refine lv_aload_n hx hb d_Model_init_28 rfl (lv_at hl 0 rfl) ?_
  refine lv_bipush (v := 32) hx hb d_Model_init_29 (by decide) ?_
  refine sm_cnewI hC hK hG rfl (hC.2.2.2.2 _ (List.mem_cons_of_mem _ aw_56)) (by decide) (by decide) (by decide) (Nat.le_of_ble_eq_true rfl) (Nat.le_of_ble_eq_true rfl) d_Model_init_31 (fun H hG => ?_)
  refine W.cs (cells' := 4) (slots' := 236) (by omega) (by omega) ?_
  have hG : sm_GP v (73) (sm_zs (sm_zs (sm_zs (Z) (68) 1) (68) 2) (68) 3) (M) s _ _ := hG
  refine sm_cputF (C := R_Model) (T := T_Model) (N := 31) (j := 4) (ty := t_Model 4) t_Model t_Model_ok n_Model hC hK hnm h0 (by omega) hG (fun w h => List.mem_cons_of_mem _ (iw_Model w h)) (by decide) rfl rfl (by decide) rfl rfl rfl (t_Model_ok 4 (by decide)) (fun _ => rfl) (fun _ => rfl) (hC.2.2.2.2 _ (List.mem_cons_of_mem _ aw_691)) d_Model_init_33 (fun H locs hG => ?_)
  have hG : sm_GP v (73) (sm_zs (sm_zs (sm_zs (sm_zs (Z) (68) 1) (68) 2) (68) 3) (68) 4) (M) s _ _ := hG
  refine lv_aload_n hx hb d_Model_init_36 rfl (lv_at hl 0 rfl) ?_
  refine lv_bipush (v := 32) hx hb d_Model_init_37 (by decide) ?_
  refine sm_cnewI hC hK hG rfl (hC.2.2.2.2 _ (List.mem_cons_of_mem _ aw_56)) (by decide) (by decide) (by decide) (Nat.le_of_ble_eq_true rfl) (Nat.le_of_ble_eq_true rfl) d_Model_init_39 (fun H hG => ?_)
  refine W.cs (cells' := 5) (slots' := 268) (by omega) (by omega) ?_
  have hG : sm_GP v (74) (sm_zs (sm_zs (sm_zs (sm_zs (Z) (68) 1) (68) 2) (68) 3) (68) 4) (M) s _ _ := hG
  refine sm_cputF (C := R_Model) (T := T_Model) (N := 31) (j := 5) (ty := t_Model 5) t_Model t_Model_ok n_Model hC hK hnm h0 (by omega) hG (fun w h => List.mem_cons_of_mem _ (iw_Model w h)) (by decide) rfl rfl (by decide) rfl rfl rfl (t_Model_ok 5 (by decide)) (fun _ => rfl) (fun _ => rfl) (hC.2.2.2.2 _ (List.mem_cons_of_mem _ aw_692)) d_Model_init_41 (fun H locs hG => ?_)
  have hG : sm_GP v (74) (sm_zs (sm_zs (sm_zs (sm_zs (sm_zs (Z) (68) 1) (68) 2) (68) 3) (68) 4) (68) 5) (M) s _ _ := hG
  refine lv_aload_n hx hb d_Model_init_44 rfl (lv_at hl 0 rfl) ?_
  refine lv_bipush (v := 32) hx hb d_Model_init_45 (by decide) ?_
  refine sm_cnewI hC hK hG rfl (hC.2.2.2.2 _ (List.mem_cons_of_mem _ aw_56)) (by decide) (by decide) (by decide) (Nat.le_of_ble_eq_true rfl) (Nat.le_of_ble_eq_true rfl) d_Model_init_47 (fun H hG => ?_)
  refine W.cs (cells' := 6) (slots' := 300) (by omega) (by omega) ?_
  have hG : sm_GP v (75) (sm_zs (sm_zs (sm_zs (sm_zs (sm_zs (Z) (68) 1) (68) 2) (68) 3) (68) 4) (68) 5) (M) s _ _ := hG
  refine sm_cputF (C := R_Model) (T := T_Model) (N := 31) (j := 6) (ty := t_Model 6) t_Model t_Model_ok n_Model hC hK hnm h0 (by omega) hG (fun w h => List.mem_cons_of_mem _ (iw_Model w h)) (by decide) rfl rfl (by decide) rfl rfl rfl (t_Model_ok 6 (by decide)) (fun _ => rfl) (fun _ => rfl) (hC.2.2.2.2 _ (List.mem_cons_of_mem _ aw_693)) d_Model_init_49 (fun H locs hG => ?_)
  have hG : sm_GP v (75) (sm_zs (sm_zs (sm_zs (sm_zs (sm_zs (sm_zs (Z) (68) 1) (68) 2) (68) 3) (68) 4) (68) 5) (68) 6) (M) s _ _ := hG
  refine lv_aload_n hx hb d_Model_init_52 rfl (lv_at hl 0 rfl) ?_
  refine lv_bipush (v := 32) hx hb d_Model_init_53 (by decide) ?_
  refine sm_cnewZ hC hK hG rfl (hC.2.2.2.2 _ (List.mem_cons_of_mem _ aw_109)) (by decide) (by decide) (by decide) (Nat.le_of_ble_eq_true rfl) (Nat.le_of_ble_eq_true rfl) d_Model_init_55 (fun H hG => ?_)
  refine W.cs (cells' := 7) (slots' := 332) (by omega) (by omega) ?_
  have hG : sm_GP v (76) (sm_zs (sm_zs (sm_zs (sm_zs (sm_zs (sm_zs (Z) (68) 1) (68) 2) (68) 3) (68) 4) (68) 5) (68) 6) (M) s _ _ := hG
  refine sm_cputF (C := R_Model) (T := T_Model) (N := 31) (j := 7) (ty := t_Model 7) t_Model t_Model_ok n_Model hC hK hnm h0 (by omega) hG (fun w h => List.mem_cons_of_mem _ (iw_Model w h)) (by decide) rfl rfl (by decide) rfl rfl rfl (t_Model_ok 7 (by decide)) (fun _ => rfl) (fun _ => rfl) (hC.2.2.2.2 _ (List.mem_cons_of_mem _ aw_694)) d_Model_init_57 (fun H locs hG => ?_)
  have hG : sm_GP v (76) (sm_zs (sm_zs (sm_zs (sm_zs (sm_zs (sm_zs (sm_zs (Z) (68) 1) (68) 2) (68) 3) (68) 4) (68) 5) (68) 6) (68) 7) (M) s _ _ := hG
  refine lv_aload_n hx hb d_Model_init_60 rfl (lv_at hl 0 rfl) ?_
  refine lv_iconst (v := 4) hx hb d_Model_init_61 (by decide) ?_
  refine sm_cnewI hC hK hG rfl (hC.2.2.2.2 _ (List.mem_cons_of_mem _ aw_56)) (by decide) (by decide) (by decide) (Nat.le_of_ble_eq_true rfl) (Nat.le_of_ble_eq_true rfl) d_Model_init_62 (fun H hG => ?_)
  refine W.cs (cells' := 8) (slots' := 336) (by omega) (by omega) ?_
  have hG : sm_GP v (77) (sm_zs (sm_zs (sm_zs (sm_zs (sm_zs (sm_zs (sm_zs (Z) (68) 1) (68) 2) (68) 3) (68) 4) (68) 5) (68) 6) (68) 7) (M) s _ _ := hG
  refine sm_cputF (C := R_Model) (T := T_Model) (N := 31) (j := 8) (ty := t_Model 8) t_Model t_Model_ok n_Model hC hK hnm h0 (by omega) hG (fun w h => List.mem_cons_of_mem _ (iw_Model w h)) (by decide) rfl rfl (by decide) rfl rfl rfl (t_Model_ok 8 (by decide)) (fun _ => rfl) (fun _ => rfl) (hC.2.2.2.2 _ (List.mem_cons_of_mem _ aw_695)) d_Model_init_64 (fun H locs hG => ?_)
  have hG : sm_GP v (77) (sm_zs (sm_zs (sm_zs (sm_zs (sm_zs (sm_zs (sm_zs (sm_zs (Z) (68) 1) (68) 2) (68) 3) (68) 4) (68) 5) (68) 6) (68) 7) (68) 8) (M) s _ _ := hG
  refine lv_aload_n hx hb d_Model_init_67 rfl (lv_at hl 0 rfl) ?_
  refine lv_bipush (v := 64) hx hb d_Model_init_68 (by decide) ?_
  refine sm_cnewI hC hK hG rfl (hC.2.2.2.2 _ (List.mem_cons_of_mem _ aw_56)) (by decide) (by decide) (by decide) (Nat.le_of_ble_eq_true rfl) (Nat.le_of_ble_eq_true rfl) d_Model_init_70 (fun H hG => ?_)
  refine W.cs (cells' := 9) (slots' := 400) (by omega) (by omega) ?_
  have hG : sm_GP v (78) (sm_zs (sm_zs (sm_zs (sm_zs (sm_zs (sm_zs (sm_zs (sm_zs (Z) (68) 1) (68) 2) (68) 3) (68) 4) (68) 5) (68) 6) (68) 7) (68) 8) (M) s _ _ := hG
  refine sm_cputF (C := R_Model) (T := T_Model) (N := 31) (j := 9) (ty := t_Model 9) t_Model t_Model_ok n_Model hC hK hnm h0 (by omega) hG (fun w h => List.mem_cons_of_mem _ (iw_Model w h)) (by decide) rfl rfl (by decide) rfl rfl rfl (t_Model_ok 9 (by decide)) (fun _ => rfl) (fun _ => rfl) (hC.2.2.2.2 _ (List.mem_cons_of_mem _ aw_696)) d_Model_init_72 (fun H locs hG => ?_)
  have hG : sm_GP v (78) (sm_zs (sm_zs (sm_zs (sm_zs (sm_zs (sm_zs (sm_zs (sm_zs (sm_zs (Z) (68) 1) (68) 2) (68) 3) (68) 4) (68) 5) (68) 6) (68) 7) (68) 8) (68) 9) (M) s _ _ := hG
  refine lv_aload_n hx hb d_Model_init_75 rfl (lv_at hl 0 rfl) ?_
  refine lv_bipush (v := 64) hx hb d_Model_init_76 (by decide) ?_
  refine sm_cnewI hC hK hG rfl (hC.2.2.2.2 _ (List.mem_cons_of_mem _ aw_56)) (by decide) (by decide) (by decide) (Nat.le_of_ble_eq_true rfl) (Nat.le_of_ble_eq_true rfl) d_Model_init_78 (fun H hG => ?_)
  refine W.cs (cells' := 10) (slots' := 464) (by omega) (by omega) ?_
  have hG : sm_GP v (79) (sm_zs (sm_zs (sm_zs (sm_zs (sm_zs (sm_zs (sm_zs (sm_zs (sm_zs (Z) (68) 1) (68) 2) (68) 3) (68) 4) (68) 5) (68) 6) (68) 7) (68) 8) (68) 9) (M) s _ _ := hG
  refine sm_cputF (C := R_Model) (T := T_Model) (N := 31) (j := 10) (ty := t_Model 10) t_Model t_Model_ok n_Model hC hK hnm h0 (by omega) hG (fun w h => List.mem_cons_of_mem _ (iw_Model w h)) (by decide) rfl rfl (by decide) rfl rfl rfl (t_Model_ok 10 (by decide)) (fun _ => rfl) (fun _ => rfl) (hC.2.2.2.2 _ (List.mem_cons_of_mem _ aw_697)) d_Model_init_80 (fun H locs hG => ?_)
  have hG : sm_GP v (79) (sm_zs (sm_zs (sm_zs (sm_zs (sm_zs (sm_zs (sm_zs (sm_zs (sm_zs (sm_zs (Z) (68) 1) (68) 2) (68) 3) (68) 4) (68) 5) (68) 6) (68) 7) (68) 8) (68) 9) (68) 10) (M) s _ _ := hG
  refine lv_aload_n hx hb d_Model_init_83 rfl (lv_at hl 0 rfl) ?_
  refine lv_bipush (v := 64) hx hb d_Model_init_84 (by decide) ?_
  refine sm_cnewI hC hK hG rfl (hC.2.2.2.2 _ (List.mem_cons_of_mem _ aw_56)) (by decide) (by decide) (by decide) (Nat.le_of_ble_eq_true rfl) (Nat.le_of_ble_eq_true rfl) d_Model_init_86 (fun H hG => ?_)
  refine W.cs (cells' := 11) (slots' := 528) (by omega) (by omega) ?_
  have hG : sm_GP v (80) (sm_zs (sm_zs (sm_zs (sm_zs (sm_zs (sm_zs (sm_zs (sm_zs (sm_zs (sm_zs (Z) (68) 1) (68) 2) (68) 3) (68) 4) (68) 5) (68) 6) (68) 7) (68) 8) (68) 9) (68) 10) (M) s _ _ := hG
  refine sm_cputF (C := R_Model) (T := T_Model) (N := 31) (j := 11) (ty := t_Model 11) t_Model t_Model_ok n_Model hC hK hnm h0 (by omega) hG (fun w h => List.mem_cons_of_mem _ (iw_Model w h)) (by decide) rfl rfl (by decide) rfl rfl rfl (t_Model_ok 11 (by decide)) (fun _ => rfl) (fun _ => rfl) (hC.2.2.2.2 _ (List.mem_cons_of_mem _ aw_698)) d_Model_init_88 (fun H locs hG => ?_)
  have hG : sm_GP v (80) (sm_zs (sm_zs (sm_zs (sm_zs (sm_zs (sm_zs (sm_zs (sm_zs (sm_zs (sm_zs (sm_zs (Z) (68) 1) (68) 2) (68) 3) (68) 4) (68) 5) (68) 6) (68) 7) (68) 8) (68) 9) (68) 10) (68) 11) (M) s _ _ := hG
  refine lv_aload_n hx hb d_Model_init_91 rfl (lv_at hl 0 rfl) ?_
  refine lv_bipush (v := 64) hx hb d_Model_init_92 (by decide) ?_
  refine sm_cnewI hC hK hG rfl (hC.2.2.2.2 _ (List.mem_cons_of_mem _ aw_56)) (by decide) (by decide) (by decide) (Nat.le_of_ble_eq_true rfl) (Nat.le_of_ble_eq_true rfl) d_Model_init_94 (fun H hG => ?_)
  refine W.cs (cells' := 12) (slots' := 592) (by omega) (by omega) ?_
  have hG : sm_GP v (81) (sm_zs (sm_zs (sm_zs (sm_zs (sm_zs (sm_zs (sm_zs (sm_zs (sm_zs (sm_zs (sm_zs (Z) (68) 1) (68) 2) (68) 3) (68) 4) (68) 5) (68) 6) (68) 7) (68) 8) (68) 9) (68) 10) (68) 11) (M) s _ _ := hG
  refine sm_cputF (C := R_Model) (T := T_Model) (N := 31) (j := 12) (ty := t_Model 12) t_Model t_Model_ok n_Model hC hK hnm h0 (by omega) hG (fun w h => List.mem_cons_of_mem _ (iw_Model w h)) (by decide) rfl rfl (by decide) rfl rfl rfl (t_Model_ok 12 (by decide)) (fun _ => rfl) (fun _ => rfl) (hC.2.2.2.2 _ (List.mem_cons_of_mem _ aw_699)) d_Model_init_96 (fun H locs hG => ?_)
  have hG : sm_GP v (81) (sm_zs (sm_zs (sm_zs (sm_zs (sm_zs (sm_zs (sm_zs (sm_zs (sm_zs (sm_zs (sm_zs (sm_zs (Z) (68) 1) (68) 2) (68) 3) (68) 4) (68) 5) (68) 6) (68) 7) (68) 8) (68) 9) (68) 10) (68) 11) (68) 12) (M) s _ _ := hG
  refine lv_aload_n hx hb d_Model_init_99 rfl (lv_at hl 0 rfl) ?_
  refine lv_bipush (v := 64) hx hb d_Model_init_100 (by decide) ?_
  refine sm_cnewI hC hK hG rfl (hC.2.2.2.2 _ (List.mem_cons_of_mem _ aw_56)) (by decide) (by decide) (by decide) (Nat.le_of_ble_eq_true rfl) (Nat.le_of_ble_eq_true rfl) d_Model_init_102 (fun H hG => ?_)
  refine W.cs (cells' := 13) (slots' := 656) (by omega) (by omega) ?_
  have hG : sm_GP v (82) (sm_zs (sm_zs (sm_zs (sm_zs (sm_zs (sm_zs (sm_zs (sm_zs (sm_zs (sm_zs (sm_zs (sm_zs (Z) (68) 1) (68) 2) (68) 3) (68) 4) (68) 5) (68) 6) (68) 7) (68) 8) (68) 9) (68) 10) (68) 11) (68) 12) (M) s _ _ := hG
  refine sm_cputF (C := R_Model) (T := T_Model) (N := 31) (j := 13) (ty := t_Model 13) t_Model t_Model_ok n_Model hC hK hnm h0 (by omega) hG (fun w h => List.mem_cons_of_mem _ (iw_Model w h)) (by decide) rfl rfl (by decide) rfl rfl rfl (t_Model_ok 13 (by decide)) (fun _ => rfl) (fun _ => rfl) (hC.2.2.2.2 _ (List.mem_cons_of_mem _ aw_700)) d_Model_init_104 (fun H locs hG => ?_)
  have hG : sm_GP v (82) (sm_zs (sm_zs (sm_zs (sm_zs (sm_zs (sm_zs (sm_zs (sm_zs (sm_zs (sm_zs (sm_zs (sm_zs (sm_zs (Z) (68) 1) (68) 2) (68) 3) (68) 4) (68) 5) (68) 6) (68) 7) (68) 8) (68) 9) (68) 10) (68) 11) (68) 12) (68) 13) (M) s _ _ := hG
  refine lv_aload_n hx hb d_Model_init_107 rfl (lv_at hl 0 rfl) ?_
  refine lv_sipush (v := 192) hx hb d_Model_init_108 (by decide) ?_
  refine sm_cnewI hC hK hG rfl (hC.2.2.2.2 _ (List.mem_cons_of_mem _ aw_56)) (by decide) (by decide) (by decide) (Nat.le_of_ble_eq_true rfl) (Nat.le_of_ble_eq_true rfl) d_Model_init_111 (fun H hG => ?_)
  refine W.cs (cells' := 14) (slots' := 848) (by omega) (by omega) ?_
  have hG : sm_GP v (83) (sm_zs (sm_zs (sm_zs (sm_zs (sm_zs (sm_zs (sm_zs (sm_zs (sm_zs (sm_zs (sm_zs (sm_zs (sm_zs (Z) (68) 1) (68) 2) (68) 3) (68) 4) (68) 5) (68) 6) (68) 7) (68) 8) (68) 9) (68) 10) (68) 11) (68) 12) (68) 13) (M) s _ _ := hG
  refine sm_cputF (C := R_Model) (T := T_Model) (N := 31) (j := 14) (ty := t_Model 14) t_Model t_Model_ok n_Model hC hK hnm h0 (by omega) hG (fun w h => List.mem_cons_of_mem _ (iw_Model w h)) (by decide) rfl rfl (by decide) rfl rfl rfl (t_Model_ok 14 (by decide)) (fun _ => rfl) (fun _ => rfl) (hC.2.2.2.2 _ (List.mem_cons_of_mem _ aw_701)) d_Model_init_113 (fun H locs hG => ?_)
  have hG : sm_GP v (83) (sm_zs (sm_zs (sm_zs (sm_zs (sm_zs (sm_zs (sm_zs (sm_zs (sm_zs (sm_zs (sm_zs (sm_zs (sm_zs (sm_zs (Z) (68) 1) (68) 2) (68) 3) (68) 4) (68) 5) (68) 6) (68) 7) (68) 8) (68) 9) (68) 10) (68) 11) (68) 12) (68) 13) (68) 14) (M) s _ _ := hG
  refine lv_aload_n hx hb d_Model_init_116 rfl (lv_at hl 0 rfl) ?_
  refine lv_bipush (v := 8) hx hb d_Model_init_117 (by decide) ?_
  refine sm_cnewI hC hK hG rfl (hC.2.2.2.2 _ (List.mem_cons_of_mem _ aw_56)) (by decide) (by decide) (by decide) (Nat.le_of_ble_eq_true rfl) (Nat.le_of_ble_eq_true rfl) d_Model_init_119 (fun H hG => ?_)
  refine W.cs (cells' := 15) (slots' := 856) (by omega) (by omega) ?_
  have hG : sm_GP v (84) (sm_zs (sm_zs (sm_zs (sm_zs (sm_zs (sm_zs (sm_zs (sm_zs (sm_zs (sm_zs (sm_zs (sm_zs (sm_zs (sm_zs (Z) (68) 1) (68) 2) (68) 3) (68) 4) (68) 5) (68) 6) (68) 7) (68) 8) (68) 9) (68) 10) (68) 11) (68) 12) (68) 13) (68) 14) (M) s _ _ := hG
  refine sm_cputF (C := R_Model) (T := T_Model) (N := 31) (j := 15) (ty := t_Model 15) t_Model t_Model_ok n_Model hC hK hnm h0 (by omega) hG (fun w h => List.mem_cons_of_mem _ (iw_Model w h)) (by decide) rfl rfl (by decide) rfl rfl rfl (t_Model_ok 15 (by decide)) (fun _ => rfl) (fun _ => rfl) (hC.2.2.2.2 _ (List.mem_cons_of_mem _ aw_702)) d_Model_init_121 (fun H locs hG => ?_)
  have hG : sm_GP v (84) (sm_zs (sm_zs (sm_zs (sm_zs (sm_zs (sm_zs (sm_zs (sm_zs (sm_zs (sm_zs (sm_zs (sm_zs (sm_zs (sm_zs (sm_zs (Z) (68) 1) (68) 2) (68) 3) (68) 4) (68) 5) (68) 6) (68) 7) (68) 8) (68) 9) (68) 10) (68) 11) (68) 12) (68) 13) (68) 14) (68) 15) (M) s _ _ := hG
  refine lv_aload_n hx hb d_Model_init_124 rfl (lv_at hl 0 rfl) ?_
  refine lv_bipush (v := 16) hx hb d_Model_init_125 (by decide) ?_
  refine sm_cnewZ hC hK hG rfl (hC.2.2.2.2 _ (List.mem_cons_of_mem _ aw_109)) (by decide) (by decide) (by decide) (Nat.le_of_ble_eq_true rfl) (Nat.le_of_ble_eq_true rfl) d_Model_init_127 (fun H hG => ?_)
  refine W.cs (cells' := 16) (slots' := 872) (by omega) (by omega) ?_
  have hG : sm_GP v (85) (sm_zs (sm_zs (sm_zs (sm_zs (sm_zs (sm_zs (sm_zs (sm_zs (sm_zs (sm_zs (sm_zs (sm_zs (sm_zs (sm_zs (sm_zs (Z) (68) 1) (68) 2) (68) 3) (68) 4) (68) 5) (68) 6) (68) 7) (68) 8) (68) 9) (68) 10) (68) 11) (68) 12) (68) 13) (68) 14) (68) 15) (M) s _ _ := hG
  refine sm_cputF (C := R_Model) (T := T_Model) (N := 31) (j := 16) (ty := t_Model 16) t_Model t_Model_ok n_Model hC hK hnm h0 (by omega) hG (fun w h => List.mem_cons_of_mem _ (iw_Model w h)) (by decide) rfl rfl (by decide) rfl rfl rfl (t_Model_ok 16 (by decide)) (fun _ => rfl) (fun _ => rfl) (hC.2.2.2.2 _ (List.mem_cons_of_mem _ aw_703)) d_Model_init_129 (fun H locs hG => ?_)
  have hG : sm_GP v (85) (sm_zs (sm_zs (sm_zs (sm_zs (sm_zs (sm_zs (sm_zs (sm_zs (sm_zs (sm_zs (sm_zs (sm_zs (sm_zs (sm_zs (sm_zs (sm_zs (Z) (68) 1) (68) 2) (68) 3) (68) 4) (68) 5) (68) 6) (68) 7) (68) 8) (68) 9) (68) 10) (68) 11) (68) 12) (68) 13) (68) 14) (68) 15) (68) 16) (M) s _ _ := hG
  refine lv_aload_n hx hb d_Model_init_132 rfl (lv_at hl 0 rfl) ?_
  refine lv_bipush (v := 16) hx hb d_Model_init_133 (by decide) ?_
  refine sm_cnewI hC hK hG rfl (hC.2.2.2.2 _ (List.mem_cons_of_mem _ aw_56)) (by decide) (by decide) (by decide) (Nat.le_of_ble_eq_true rfl) (Nat.le_of_ble_eq_true rfl) d_Model_init_135 (fun H hG => ?_)
  refine W.cs (cells' := 17) (slots' := 888) (by omega) (by omega) ?_
  have hG : sm_GP v (86) (sm_zs (sm_zs (sm_zs (sm_zs (sm_zs (sm_zs (sm_zs (sm_zs (sm_zs (sm_zs (sm_zs (sm_zs (sm_zs (sm_zs (sm_zs (sm_zs (Z) (68) 1) (68) 2) (68) 3) (68) 4) (68) 5) (68) 6) (68) 7) (68) 8) (68) 9) (68) 10) (68) 11) (68) 12) (68) 13) (68) 14) (68) 15) (68) 16) (M) s _ _ := hG
  refine sm_cputF (C := R_Model) (T := T_Model) (N := 31) (j := 17) (ty := t_Model 17) t_Model t_Model_ok n_Model hC hK hnm h0 (by omega) hG (fun w h => List.mem_cons_of_mem _ (iw_Model w h)) (by decide) rfl rfl (by decide) rfl rfl rfl (t_Model_ok 17 (by decide)) (fun _ => rfl) (fun _ => rfl) (hC.2.2.2.2 _ (List.mem_cons_of_mem _ aw_704)) d_Model_init_137 (fun H locs hG => ?_)
  have hG : sm_GP v (86) (sm_zs (sm_zs (sm_zs (sm_zs (sm_zs (sm_zs (sm_zs (sm_zs (sm_zs (sm_zs (sm_zs (sm_zs (sm_zs (sm_zs (sm_zs (sm_zs (sm_zs (Z) (68) 1) (68) 2) (68) 3) (68) 4) (68) 5) (68) 6) (68) 7) (68) 8) (68) 9) (68) 10) (68) 11) (68) 12) (68) 13) (68) 14) (68) 15) (68) 16) (68) 17) (M) s _ _ := hG
  refine lv_aload_n hx hb d_Model_init_140 rfl (lv_at hl 0 rfl) ?_
  refine lv_sipush (v := 1000) hx hb d_Model_init_141 (by decide) ?_
  refine sm_cnewI hC hK hG rfl (hC.2.2.2.2 _ (List.mem_cons_of_mem _ aw_56)) (by decide) (by decide) (by decide) (Nat.le_of_ble_eq_true rfl) (Nat.le_of_ble_eq_true rfl) d_Model_init_144 (fun H hG => ?_)
  refine W.cs (cells' := 18) (slots' := 1888) (by omega) (by omega) ?_
  have hG : sm_GP v (87) (sm_zs (sm_zs (sm_zs (sm_zs (sm_zs (sm_zs (sm_zs (sm_zs (sm_zs (sm_zs (sm_zs (sm_zs (sm_zs (sm_zs (sm_zs (sm_zs (sm_zs (Z) (68) 1) (68) 2) (68) 3) (68) 4) (68) 5) (68) 6) (68) 7) (68) 8) (68) 9) (68) 10) (68) 11) (68) 12) (68) 13) (68) 14) (68) 15) (68) 16) (68) 17) (M) s _ _ := hG
  refine sm_cputF (C := R_Model) (T := T_Model) (N := 31) (j := 19) (ty := t_Model 19) t_Model t_Model_ok n_Model hC hK hnm h0 (by omega) hG (fun w h => List.mem_cons_of_mem _ (iw_Model w h)) (by decide) rfl rfl (by decide) rfl rfl rfl (t_Model_ok 19 (by decide)) (fun _ => rfl) (fun _ => rfl) (hC.2.2.2.2 _ (List.mem_cons_of_mem _ aw_706)) d_Model_init_146 (fun H locs hG => ?_)
  have hG : sm_GP v (87) (sm_zs (sm_zs (sm_zs (sm_zs (sm_zs (sm_zs (sm_zs (sm_zs (sm_zs (sm_zs (sm_zs (sm_zs (sm_zs (sm_zs (sm_zs (sm_zs (sm_zs (sm_zs (Z) (68) 1) (68) 2) (68) 3) (68) 4) (68) 5) (68) 6) (68) 7) (68) 8) (68) 9) (68) 10) (68) 11) (68) 12) (68) 13) (68) 14) (68) 15) (68) 16) (68) 17) (68) 19) (M) s _ _ := hG
  refine lv_aload_n hx hb d_Model_init_149 rfl (lv_at hl 0 rfl) ?_
  refine lv_sipush (v := 250) hx hb d_Model_init_150 (by decide) ?_
  refine sm_cnewI hC hK hG rfl (hC.2.2.2.2 _ (List.mem_cons_of_mem _ aw_56)) (by decide) (by decide) (by decide) (Nat.le_of_ble_eq_true rfl) (Nat.le_of_ble_eq_true rfl) d_Model_init_153 (fun H hG => ?_)
  refine W.cs (cells' := 19) (slots' := 2138) (by omega) (by omega) ?_
  have hG : sm_GP v (88) (sm_zs (sm_zs (sm_zs (sm_zs (sm_zs (sm_zs (sm_zs (sm_zs (sm_zs (sm_zs (sm_zs (sm_zs (sm_zs (sm_zs (sm_zs (sm_zs (sm_zs (sm_zs (Z) (68) 1) (68) 2) (68) 3) (68) 4) (68) 5) (68) 6) (68) 7) (68) 8) (68) 9) (68) 10) (68) 11) (68) 12) (68) 13) (68) 14) (68) 15) (68) 16) (68) 17) (68) 19) (M) s _ _ := hG
  refine sm_cputF (C := R_Model) (T := T_Model) (N := 31) (j := 24) (ty := t_Model 24) t_Model t_Model_ok n_Model hC hK hnm h0 (by omega) hG (fun w h => List.mem_cons_of_mem _ (iw_Model w h)) (by decide) rfl rfl (by decide) rfl rfl rfl (t_Model_ok 24 (by decide)) (fun _ => rfl) (fun _ => rfl) (hC.2.2.2.2 _ (List.mem_cons_of_mem _ aw_711)) d_Model_init_155 (fun H locs hG => ?_)
  have hG : sm_GP v (88) (sm_zs (sm_zs (sm_zs (sm_zs (sm_zs (sm_zs (sm_zs (sm_zs (sm_zs (sm_zs (sm_zs (sm_zs (sm_zs (sm_zs (sm_zs (sm_zs (sm_zs (sm_zs (sm_zs (Z) (68) 1) (68) 2) (68) 3) (68) 4) (68) 5) (68) 6) (68) 7) (68) 8) (68) 9) (68) 10) (68) 11) (68) 12) (68) 13) (68) 14) (68) 15) (68) 16) (68) 17) (68) 19) (68) 24) (M) s _ _ := hG
  refine lv_aload_n hx hb d_Model_init_158 rfl (lv_at hl 0 rfl) ?_
  refine lv_bipush (v := 32) hx hb d_Model_init_159 (by decide) ?_
  refine sm_cnewI hC hK hG rfl (hC.2.2.2.2 _ (List.mem_cons_of_mem _ aw_56)) (by decide) (by decide) (by decide) (Nat.le_of_ble_eq_true rfl) (Nat.le_of_ble_eq_true rfl) d_Model_init_161 (fun H hG => ?_)
  refine W.cs (cells' := 20) (slots' := 2170) (by omega) (by omega) ?_
  have hG : sm_GP v (89) (sm_zs (sm_zs (sm_zs (sm_zs (sm_zs (sm_zs (sm_zs (sm_zs (sm_zs (sm_zs (sm_zs (sm_zs (sm_zs (sm_zs (sm_zs (sm_zs (sm_zs (sm_zs (sm_zs (Z) (68) 1) (68) 2) (68) 3) (68) 4) (68) 5) (68) 6) (68) 7) (68) 8) (68) 9) (68) 10) (68) 11) (68) 12) (68) 13) (68) 14) (68) 15) (68) 16) (68) 17) (68) 19) (68) 24) (M) s _ _ := hG
  refine sm_cputF (C := R_Model) (T := T_Model) (N := 31) (j := 28) (ty := t_Model 28) t_Model t_Model_ok n_Model hC hK hnm h0 (by omega) hG (fun w h => List.mem_cons_of_mem _ (iw_Model w h)) (by decide) rfl rfl (by decide) rfl rfl rfl (t_Model_ok 28 (by decide)) (fun _ => rfl) (fun _ => rfl) (hC.2.2.2.2 _ (List.mem_cons_of_mem _ aw_715)) d_Model_init_163 (fun H locs hG => ?_)
  have hG : sm_GP v (89) (sm_zs (sm_zs (sm_zs (sm_zs (sm_zs (sm_zs (sm_zs (sm_zs (sm_zs (sm_zs (sm_zs (sm_zs (sm_zs (sm_zs (sm_zs (sm_zs (sm_zs (sm_zs (sm_zs (sm_zs (Z) (68) 1) (68) 2) (68) 3) (68) 4) (68) 5) (68) 6) (68) 7) (68) 8) (68) 9) (68) 10) (68) 11) (68) 12) (68) 13) (68) 14) (68) 15) (68) 16) (68) 17) (68) 19) (68) 24) (68) 28) (M) s _ _ := hG
  refine lv_aload_n hx hb d_Model_init_166 rfl (lv_at hl 0 rfl) ?_
  refine lv_bipush (v := 16) hx hb d_Model_init_167 (by decide) ?_
  refine sm_cnewI hC hK hG rfl (hC.2.2.2.2 _ (List.mem_cons_of_mem _ aw_56)) (by decide) (by decide) (by decide) (Nat.le_of_ble_eq_true rfl) (Nat.le_of_ble_eq_true rfl) d_Model_init_169 (fun H hG => ?_)
  refine W.cs (cells' := 21) (slots' := 2186) (by omega) (by omega) ?_
  have hG : sm_GP v (90) (sm_zs (sm_zs (sm_zs (sm_zs (sm_zs (sm_zs (sm_zs (sm_zs (sm_zs (sm_zs (sm_zs (sm_zs (sm_zs (sm_zs (sm_zs (sm_zs (sm_zs (sm_zs (sm_zs (sm_zs (Z) (68) 1) (68) 2) (68) 3) (68) 4) (68) 5) (68) 6) (68) 7) (68) 8) (68) 9) (68) 10) (68) 11) (68) 12) (68) 13) (68) 14) (68) 15) (68) 16) (68) 17) (68) 19) (68) 24) (68) 28) (M) s _ _ := hG
  refine sm_cputF (C := R_Model) (T := T_Model) (N := 31) (j := 30) (ty := t_Model 30) t_Model t_Model_ok n_Model hC hK hnm h0 (by omega) hG (fun w h => List.mem_cons_of_mem _ (iw_Model w h)) (by decide) rfl rfl (by decide) rfl rfl rfl (t_Model_ok 30 (by decide)) (fun _ => rfl) (fun _ => rfl) (hC.2.2.2.2 _ (List.mem_cons_of_mem _ aw_717)) d_Model_init_171 (fun H locs hG => ?_)
  have hG : sm_GP v (90) (sm_zs (sm_zs (sm_zs (sm_zs (sm_zs (sm_zs (sm_zs (sm_zs (sm_zs (sm_zs (sm_zs (sm_zs (sm_zs (sm_zs (sm_zs (sm_zs (sm_zs (sm_zs (sm_zs (sm_zs (sm_zs (Z) (68) 1) (68) 2) (68) 3) (68) 4) (68) 5) (68) 6) (68) 7) (68) 8) (68) 9) (68) 10) (68) 11) (68) 12) (68) 13) (68) 14) (68) 15) (68) 16) (68) 17) (68) 19) (68) 24) (68) 28) (68) 30) (M) s _ _ := hG
  exact sm_vretP hC hr hlk hG d_Model_init_174
