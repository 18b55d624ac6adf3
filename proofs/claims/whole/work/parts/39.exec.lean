theorem c_num (w : Int32) : f_Instr_numberOf w = some (w >>> ((if w &&& 31 = 1 then (12 : Int32) else if w &&& 31 = 16 then 10 else 20) &&& 31)) := by
  simp only [f_Instr_numberOf, f_Instr_opOf, f_Instr_numberAt, i_b1]
  split
  · rw [i_b1]
  split <;> rw [i_b1]
theorem c_join (op x y : Int32) : f_Model_reckoned op x y = f_Machine_joined op x y := rfl
theorem c_joins (op x y : Int32) : ∃ z, f_Machine_joined op x y = some z := by
  unfold f_Machine_joined
  (repeat' split) <;> exact ⟨_, rfl⟩
theorem c_regs {n : Nat} {A B : sm_M} (h : MInv2 n A B) (w op : Int32) (ho : f_Instr_isThreeRegisters op = some 1) : stp n A B (f_Machine_executeRegisters A op w) (sm_gd ((w >>> ((15 : Int32) &&& 31)) &&& (31 : Int32)) 32 (sm_b1 (f_Model_reckoned op (B 88 ((w >>> ((10 : Int32) &&& 31)) &&& (31 : Int32)).toNatClampNeg) (B 88 ((w >>> ((15 : Int32) &&& 31)) &&& (31 : Int32)).toNatClampNeg)) fun r => sm_b1 (f_Model_set B ((w >>> ((5 : Int32) &&& 31)) &&& (31 : Int32)) r) fun M' => some (sm_up M' 68 26 (B 68 26 + 4)))) := by
  rw [g31, c_join]
  unfold f_Machine_executeRegisters
  rw [ho, i_b1, if_neg (by decide)]
  simp only [f_Instr_bOf, f_Instr_registerCOf, f_Instr_aOf, i_b1, i_nm, g31]
  rw [h.rg _ (n31 _), h.rg _ (n31 _)]
  obtain ⟨z, hz⟩ := c_joins op (B 88 ((w >>> ((10 : Int32) &&& 31)) &&& (31 : Int32)).toNatClampNeg) (B 88 ((w >>> ((15 : Int32) &&& 31)) &&& (31 : Int32)).toNatClampNeg)
  rw [hz, i_b1, i_b1]
  obtain ⟨A', B', e1, e2, e3⟩ := c_goOn h ((w >>> ((5 : Int32) &&& 31)) &&& (31 : Int32)) z (b31 _).1 (b31 _).2
  exact ⟨A', B', by rw [e1, i_b1], e2, e3⟩
theorem stp.b {n : Nat} {A B : sm_M} {X Y : Option sm_M} (h : stp n A B X Y) : stp n A B (sm_b1 X fun M => some M) Y := by
  obtain ⟨A', B', e1, e2, e3⟩ := h
  exact ⟨A', B', by rw [e1, i_b1], e2, e3⟩
theorem c_fail {n : Nat} {A B : sm_M} (h : MInv2 n A B) (x : Int32) (hx : x ≠ 0) : stp n A B (some (sm_up A 64 7 x)) (some (sm_up B 68 25 x)) :=
  ⟨_, _, rfl, rfl, (c_up7 h x hx).mono (by omega), FA.up (by omega) (by omega), FB.up (by omega)⟩
theorem c_pc {n : Nat} {A B : sm_M} (h : MInv2 n A B) (x : Int32) : stp n A B (some (sm_up A 64 8 x)) (some (sm_up B 68 26 x)) :=
  ⟨_, _, rfl, rfl, (c_up8 h x).mono (by omega), FA.up (by omega) (by omega), FB.up (by omega)⟩
theorem c_load {n : Nat} {A B : sm_M} (h : MInv2 n A B) (r x : Int32) (h0 : 0 ≤ r.toInt) (h1 : r.toInt < 32) (y : Int32) : stp n A B (f_Machine_load A r x) (sm_b1 (f_Model_find B x) fun m => if m = -1 then some (sm_up B 68 25 3) else j_Model_step_172 B m (B 68 26 + 4) y r 11) := by
  obtain ⟨m, e1, e2, e3, -⟩ := c_index h x
  obtain ⟨c1, c2, c3⟩ := h.cwr
  rw [f_Machine_load, e1, e2, i_b1, i_b1]
  by_cases hm : m = -1
  · rw [if_pos hm, if_pos hm]
    exact c_fail h 3 (by decide)
  · rcases e3 with e3 | ⟨r0, r1⟩
    · exact absurd e3 hm
    rw [if_neg hm, if_neg hm, j_Model_step_172, if_neg (by decide), i_gd (by omega) (by omega), i_gd (by omega) (by omega), h.mw _ (by rw [t_n]; omega)]
    exact (c_goOn h r _ h0 h1).b
theorem c_store {n : Nat} {A B : sm_M} (h : MInv2 n A B) (r x : Int32) (h0 : 0 ≤ r.toInt) (h1 : r.toInt < 32) : stp n A B (f_Machine_store A r x) (sm_b1 (f_Model_find B x) fun m => if m = -1 then some (sm_up B 68 25 3) else if B 68 21 ≤ m then j_Model_step_172 B m (B 68 26 + 4) (B 88 r.toNatClampNeg) r 12 else some (sm_up B 68 25 3)) := by
  obtain ⟨m, e1, e2, e3, -⟩ := c_index h x
  obtain ⟨c1, c2, c3⟩ := h.cwr
  rw [f_Machine_store, e1, e2, i_b1, i_b1, h.m4]
  by_cases hm : m = -1
  · subst hm
    rw [if_pos rfl, if_neg (by rw [t_le, t_m1]; omega)]
    exact c_fail h 3 (by decide)
  · rw [if_neg hm]
    rcases e3 with e3 | ⟨r0, r1⟩
    · exact absurd e3 hm
    by_cases hc : B 68 21 ≤ m
    · rw [if_pos hc, if_pos hc, i_gd (by omega) (by omega), i_gd (by omega) (by omega), j_Model_step_172, if_pos rfl, i_gd (by omega) (by omega)]
      simp only [i_nm]
      rw [h.rg _ (by rw [t_n]; omega), i_up, if_neg (by omega), h.m8]
      exact ⟨_, _, rfl, rfl, (c_up8 (c_upm h _ _) _).mono (by omega), (FA.up (by omega) (by omega)).tr (FA.up (by omega) (by omega)), (FB.up (by omega)).tr (FB.up (by omega))⟩
    · rw [if_neg hc, if_neg hc]
      exact c_fail h 3 (by decide)
theorem c_leave {n : Nat} {A B : sm_M} (h : MInv2 n A B) (r y : Int32) (h0 : 0 ≤ r.toInt) (h1 : r.toInt < 32) : stp n A B (f_Machine_leave A r y) (sm_b1 (f_Model_set B r (B 68 26 + 4)) fun M' => some (sm_up M' 68 26 y)) := by
  rw [f_Machine_leave, h.m8]
  exact c_go h r _ y h0 h1
theorem c_show {n : Nat} {A B : sm_M} (h : MInv2 n A B) (hn : n ≤ 1000000) (x : Int32) : stp n A B (f_Machine_show A x) (sm_gd ((B 68 29) - (B 68 29) / (16 : Int32) * (16 : Int32)) 16 (some (sm_up (sm_up (sm_up B 89 (Int32.toNatClampNeg ((B 68 29) - (B 68 29) / (16 : Int32) * (16 : Int32))) x) 68 29 (B 68 29 + 1)) 68 26 (B 68 26 + 4)))) := by
  have e := t_rem16 (B 68 29) h.sh.1
  rw [f_Machine_show, h.m10, i_gd (by rw [e]; omega) (by rw [e]; omega), i_gd (by rw [e]; omega) (by rw [e]; omega)]
  simp only [i_nm]
  have u1 : sm_up A 67 (Int32.toNatClampNeg ((B 68 29) - (B 68 29) / (16 : Int32) * (16 : Int32))) x 64 10 = B 68 29 := by rw [i_up, if_neg (by omega), h.m10]
  rw [u1]
  have u2 : sm_up (sm_up A 67 (Int32.toNatClampNeg ((B 68 29) - (B 68 29) / (16 : Int32) * (16 : Int32))) x) 64 10 (B 68 29 + 1) 64 8 = B 68 26 := by rw [i_up, if_neg (by omega), i_up, if_neg (by omega), h.m8]
  rw [u2]
  exact ⟨_, _, rfl, rfl, c_up8 (c_ups h hn _ _) _, ((FA.up (by omega) (by omega)).tr (FA.up (by omega) (by omega))).tr (FA.up (by omega) (by omega)), ((FB.up (by omega)).tr (FB.up (by omega))).tr (FB.up (by omega))⟩
theorem c_br (A : sm_M) (w op : Int32) : f_Machine_branches A op w = (if op = (15 : Int32) then (if A 66 ((w >>> ((10 : Int32) &&& 31)) &&& (31 : Int32)).toNatClampNeg ≤ A 66 ((w >>> ((5 : Int32) &&& 31)) &&& (31 : Int32)).toNatClampNeg then some 0 else some 1) else if A 66 ((w >>> ((5 : Int32) &&& 31)) &&& (31 : Int32)).toNatClampNeg = A 66 ((w >>> ((10 : Int32) &&& 31)) &&& (31 : Int32)).toNatClampNeg then (if op = 13 then some 1 else some 0) else (if op = 13 then some 0 else some 1)) := by
  simp only [f_Machine_branches, f_Instr_aOf, f_Instr_bOf, i_b1, i_nm, g31, j_Machine_branches_50, i_bo0, i_bo1]
  simp
theorem c_exec {n : Nat} {A B : sm_M} (h : MInv2 n A B) (hn : n ≤ 1000000) (w : Int32) : stp n A B (f_Machine_execute A w) (j_Model_step_43 B w) := by
  have ha := b31 (w >>> ((5 : Int32) &&& 31))
  have hb := b31 (w >>> ((10 : Int32) &&& 31))
  have ra := h.rg _ (n31 (w >>> ((5 : Int32) &&& 31)))
  have rb := h.rg _ (n31 (w >>> ((10 : Int32) &&& 31)))
  have h8 := h.m8
  have T : ∀ op : Int32, 3 ≤ op → op ≤ 10 → f_Instr_isThreeRegisters op = some 1 := fun op h1 h2 => by
    unfold f_Instr_isThreeRegisters
    rw [if_neg (by grind), if_neg (by grind)]
  simp only [f_Machine_execute, j_Model_step_43, f_Instr_opOf, f_Instr_aOf, f_Instr_bOf, i_b1, i_nm, g31, c_num, c_br, ra, rb, h8]
  generalize hop : w &&& 31 = op
  by_cases h0 : op = 0
  · subst h0
    simp only [if_true]
    exact c_fail h 2 (by decide)
  by_cases h1 : op = 1
  · subst h1
    simp only [j_Model_step_298]
    simp
    exact (c_goOn h _ _ ha.1 ha.2).b
  by_cases h2 : op = 2
  · subst h2
    simp only [j_Model_step_298]
    simp
    exact (c_goOn h _ _ ha.1 ha.2).b
  by_cases h11 : op = 11
  · subst h11
    simp only [j_Model_step_134]
    simp
    exact (c_load h _ _ ha.1 ha.2 _).b
  by_cases h12 : op = 12
  · subst h12
    simp only [j_Model_step_134]
    simp
    exact (c_store h _ _ ha.1 ha.2).b
  by_cases h13 : op = 13
  · subst h13
    simp only [j_Model_step_272]
    by_cases hx : B 88 ((w >>> ((5 : Int32) &&& 31)) &&& (31 : Int32)).toNatClampNeg = B 88 ((w >>> ((10 : Int32) &&& 31)) &&& (31 : Int32)).toNatClampNeg
    · simp [hx, i_b1, i_nm]
      exact c_pc h _
    · simp [hx, i_b1, i_nm]
      exact c_pc h _
  by_cases h14 : op = 14
  · subst h14
    simp only [j_Model_step_272]
    by_cases hx : B 88 ((w >>> ((5 : Int32) &&& 31)) &&& (31 : Int32)).toNatClampNeg = B 88 ((w >>> ((10 : Int32) &&& 31)) &&& (31 : Int32)).toNatClampNeg
    · simp [hx, i_b1, i_nm]
      exact c_pc h _
    · simp [hx, i_b1, i_nm]
      exact c_pc h _
  by_cases h15 : op = 15
  · subst h15
    simp only [j_Model_step_272]
    by_cases hx : B 88 ((w >>> ((10 : Int32) &&& 31)) &&& (31 : Int32)).toNatClampNeg ≤ B 88 ((w >>> ((5 : Int32) &&& 31)) &&& (31 : Int32)).toNatClampNeg
    · simp [hx, i_b1, i_nm]
      exact c_pc h _
    · simp [hx, i_b1, i_nm]
      exact c_pc h _
  by_cases h16 : op = 16
  · subst h16
    simp only [j_Model_step_298, j_Model_step_310]
    obtain ⟨A', B', e1, e2, e3, e4, e5, e6, e7⟩ := c_set h ((w >>> ((5 : Int32) &&& 31)) &&& (31 : Int32)) (B 68 26 + 4) ha.1 ha.2
    simp only [f_Machine_leave, h8, e1, e2, i_b1, i_nm, e7 68 26 (by omega)]
    simp
    exact ⟨_, _, rfl, rfl, (c_up8 e3 _).mono (by omega), e4.tr (FA.up (by omega) (by omega)), e5.tr (FB.up (by omega))⟩
  by_cases h17 : op = 17
  · subst h17
    simp only [j_Model_step_298, j_Model_step_310]
    simp
    exact (c_leave h _ _ ha.1 ha.2).b
  by_cases h18 : op = 18
  · subst h18
    simp only [j_Model_step_298, i_nm]
    simp
    have := (c_show h hn (B 88 ((w >>> ((5 : Int32) &&& 31)) &&& (31 : Int32)).toNatClampNeg)).b
    simpa [i_up] using this
  by_cases hr : 3 ≤ op ∧ op ≤ 10
  · have e := c_regs h w op (T op hr.1 hr.2)
    have k1 : op ≤ 18 := by grind
    have k2 : op < 13 := by grind
    simp only [j_Model_step_298, h0, h1, h2, h11, h12, h16, h17, h18, k1, k2, if_true, if_false, i_nm]
    have hsplit : ∀ {X Y : Option sm_M}, stp n A B X Y → stp n A B X Y := fun q => q
    have e' := e.b
    (repeat' split) <;> first | exact e' | (exfalso; grind)
  · have k1 : ¬ op ≤ 18 := by
      have := b31 w
      rw [hop] at this
      have : 0 ≤ op := by rw [t_le]; exact this.1
      grind
    have k18 : (18 : Int32) < op := by grind
    have e : f_Instr_isThreeRegisters op = some 0 := by
      unfold f_Instr_isThreeRegisters
      rw [if_neg (by grind), if_pos (by grind)]
    have k3 : ¬ op = 3 := by grind
    have k4 : ¬ op = 4 := by grind
    have k5 : ¬ op = 5 := by grind
    have k6 : ¬ op = 6 := by grind
    have k7 : ¬ op = 7 := by grind
    have k8 : ¬ op = 8 := by grind
    have k9 : ¬ op = 9 := by grind
    have k10 : ¬ op = 10 := by grind
    simp only [h0, h1, h2, k3, k4, k5, k6, k7, k8, k9, k10, h11, h12, h13, h14, h15, h16, h17, h18, k1, if_false, f_Machine_executeRegisters, e, i_b1, if_true, i_nm]
    exact c_fail h 3 (by decide)
