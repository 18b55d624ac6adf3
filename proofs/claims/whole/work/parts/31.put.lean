theorem c_bel (a n : Int32) : f_Mill_isBelow a n = some 0 ∧ ¬ (0 ≤ a ∧ a < n) ∨ (f_Mill_isBelow a n = some 1 ∧ 0 ≤ a ∧ a < n) := by
  unfold f_Mill_isBelow
  grind
theorem c_hold (op c : Int32) : f_Instr_canHold op c = some 0 ∨ f_Instr_canHold op c = some 1 := by
  simp [f_Instr_canHold, f_Instr_isThreeRegisters, f_Instr_numberAt, f_Mill_fitsSigned, f_Mill_isBelow, i_nm, i_b1, i_b1i, i_bo0, i_bo1]
  grind
theorem w3 (a : Int32) : f_Model_within a 0 3 = f_Mill_isBelow a 4 := u_within a 3 (by decide)
theorem w18 (a : Int32) : f_Model_within a 0 18 = f_Mill_isBelow a 19 := u_within a 18 (by decide)
theorem w31 (a : Int32) : f_Model_within a 0 31 = f_Mill_isBelow a 32 := u_within a 31 (by decide)
theorem w15 (a : Int32) : f_Model_within a 0 15 = f_Mill_isBelow a 16 := u_within a 15 (by decide)
theorem w4 (a : Int32) : f_Model_within a 0 4 = f_Mill_isBelow a 5 := u_within a 4 (by decide)
theorem w255 (a : Int32) : f_Model_within a 0 255 = f_Mill_isBelow a 256 := u_within a 255 (by decide)
theorem c_o4 {a : Int32} (h0 : 0 ≤ a) (h1 : a < 4) : ∃ o : Nat, o < 4 ∧ a = Int32.ofNat o := by
  have h : a = 0 ∨ a = 1 ∨ a = 2 ∨ a = 3 := by grind
  rcases h with rfl | rfl | rfl | rfl
  · exact ⟨0, by omega, rfl⟩
  · exact ⟨1, by omega, rfl⟩
  · exact ⟨2, by omega, rfl⟩
  · exact ⟨3, by omega, rfl⟩
theorem o_t : ∀ o : Nat, o < 4 → (Int32.ofNat o).toInt = o := by decide
theorem o_n : ∀ o : Nat, o < 4 → (Int32.ofNat o).toNatClampNeg = o := by decide
theorem o_2 : ∀ o : Nat, o < 4 → ((2 : Int32) * Int32.ofNat o).toInt = 2 * o := by decide
theorem o_2n : ∀ o : Nat, o < 4 → ((2 : Int32) * Int32.ofNat o).toNatClampNeg = 2 * o := by decide
theorem o_21 : ∀ o : Nat, o < 4 → ((2 : Int32) * Int32.ofNat o + 1).toInt = 2 * o + 1 := by decide
theorem o_21n : ∀ o : Nat, o < 4 → ((2 : Int32) * Int32.ofNat o + 1).toNatClampNeg = 2 * o + 1 := by decide
theorem o_48 : ∀ o : Nat, o < 4 → ((48 : Int32) * Int32.ofNat o).toInt = 48 * o := by decide
theorem o_4824 : ∀ o : Nat, o < 4 → ((48 : Int32) * Int32.ofNat o + 24).toInt = 48 * o + 24 := by decide
theorem o_8 : ∀ o : Nat, o < 4 → ((8 : Int32) * Int32.ofNat o).toInt = 8 * o := by decide
theorem o_16 : ∀ o : Nat, o < 4 → ((16 : Int32) * Int32.ofNat o).toInt = 16 * o := by decide
theorem l_c : ∀ o : Nat, o < 4 → sm_ln (3 + 14 * o + 1 + 1) = 24 := by decide
theorem l_d : ∀ o : Nat, o < 4 → sm_ln (3 + 14 * o + 3 + 1) = 12 := by decide
theorem t_add {x y : Int32} (h1 : -2147483648 ≤ x.toInt + y.toInt) (h2 : x.toInt + y.toInt < 2147483648) : (x + y).toInt = x.toInt + y.toInt := by
  rw [Int32.toInt_add, Int.bmod_def]; omega
theorem t_sub {x y : Int32} (h1 : -2147483648 ≤ x.toInt - y.toInt) (h2 : x.toInt - y.toInt < 2147483648) : (x - y).toInt = x.toInt - y.toInt := by
  rw [Int32.toInt_sub, Int.bmod_def]; omega
theorem t_1 : (1 : Int32).toInt = 1 := rfl
theorem t_inc {x : Int32} (h1 : x.toInt < 2147483647) : (x + 1).toInt = x.toInt + 1 := by
  rw [t_add, t_1] <;> rw [t_1] <;> have := Int32.le_toInt x <;> omega
theorem t_n {x : Int32} : x.toNatClampNeg = x.toInt.toNat := rfl
theorem p_fail (M : sm_M) (a0 a1 a2 a3 a4 : Int32) : j_Model_put_53 M a0 a1 a2 a3 a4 = some (0, sm_up M 68 0 1) := by
  simp [j_Model_put_53, j_Model_put_54, j_Model_put_84, i_nm, i_up]
theorem ok_fail {n : Nat} {M : sm_M} (h : Inv n M) (o : sm_O) {x : Option (Int32 × sm_M × sm_O)} {y : sm_M → Option (Int32 × sm_M)} (r b : Int32) (hr : r ≠ 0) (hx : x = some (r, M, o)) (hy : y M = some (b, sm_up M 68 0 r)) : opOK n x y :=
  ⟨r, M, o, b, _, hx, hy, by rw [i_up]; simp, fun h => absurd h hr, h.thr r⟩
theorem op_put {n : Nat} {M : sm_M} (h : Inv n M) (o : sm_O) (a0 a1 a2 a3 a4 : Int32) : opOK n (f_Law_put M o a0 a1 a2 a3 a4) (fun M1 => f_Model_put M1 a0 a1 a2 a3 a4) := by
  rcases c_bel a0 4 with ⟨g, -⟩ | ⟨g, g1, g2⟩
  · exact ok_fail h o 1 0 (by decide) (by simp [f_Law_put, f_Mill_put, g, i_b1]) (by simp [f_Model_put, w3, g, i_b1, p_fail])
  rcases c_bel a1 19 with ⟨q, -⟩ | ⟨q, q1, q2⟩
  · exact ok_fail h o 1 0 (by decide) (by simp [f_Law_put, f_Mill_put, f_Instr_canBe, g, q, i_b1]) (by simp [f_Model_put, w3, w18, g, q, i_b1, p_fail])
  rcases c_bel a2 32 with ⟨u, -⟩ | ⟨u, u1, u2⟩
  · exact ok_fail h o 1 0 (by decide) (by simp [f_Law_put, f_Mill_put, f_Instr_canBe, g, q, u, i_b1]) (by simp [f_Model_put, w3, w18, w31, g, q, u, i_b1, p_fail])
  rcases c_bel a3 32 with ⟨v, -⟩ | ⟨v, v1, v2⟩
  · exact ok_fail h o 1 0 (by decide) (by simp [f_Law_put, f_Mill_put, f_Instr_canBe, g, q, u, v, i_b1]) (by simp [f_Model_put, w3, w18, w31, g, q, u, v, i_b1, p_fail])
  rcases c_hold a1 a4 with w | w
  · exact ok_fail h o 1 0 (by decide) (by simp [f_Law_put, f_Mill_put, f_Instr_canBe, g, q, u, v, w, i_b1, i_bo0]) (by simp [f_Model_put, u_isC, w3, w18, w31, g, q, u, v, w, i_b1, p_fail])
  obtain ⟨k, hk, rfl⟩ := c_o4 g1 g2
  have hP := h.P k hk
  have hcc := hP.C.cc
  have hcr := hP.C.cr
  have gd1 : ∀ {α : Type} (x : Option α), sm_gd (Int32.ofNat k) 4 x = x := fun x => i_gd (by rw [o_t k hk]; omega) (by rw [o_t k hk]; omega)
  have gd2 : ∀ {α : Type} (x : Option α), sm_gd ((2 : Int32) * Int32.ofNat k) 8 x = x := fun x => i_gd (by rw [o_2 k hk]; omega) (by rw [o_2 k hk]; omega)
  by_cases hf : M 70 (2 * k) = 24
  · refine ok_fail h o 2 0 (by decide) ?_ ?_
    · simp [f_Law_put, f_Mill_put, f_Instr_canBe, g, q, u, v, w, i_b1, i_bo1, gd1, i_nm, o_n k hk, f_Section_isFull, l_c k hk, hcc, hf]
    · simp [f_Model_put, u_isC, w3, w18, w31, g, q, u, v, w, i_b1, j_Model_put_54, j_Model_put_84, gd2, o_2n k hk, hf, i_nm, i_up]
  obtain ⟨e, he⟩ : ∃ e, f_Instr_encoded a1 a2 a3 a4 = some e := by
    simp [f_Instr_encoded, j_Instr_encoded_57, f_Instr_isThreeRegisters, f_Instr_numberAt, i_nm, i_b1, i_b1i]
    grind
  have hlt : (M 70 (2 * k)).toInt < 24 := by
    have : (M 70 (2 * k)).toInt ≠ 24 := fun h => hf (Int32.toInt_inj.mp h)
    omega
  have e48 : ((48 : Int32) * Int32.ofNat k + M 70 (2 * k)).toInt = 48 * k + (M 70 (2 * k)).toInt := by
    rw [t_add, o_48 k hk] <;> rw [o_48 k hk] <;> omega
  have en : ((48 : Int32) * Int32.ofNat k + M 70 (2 * k)).toNatClampNeg = 48 * k + (M 70 (2 * k)).toInt.toNat := by rw [t_n, e48]; omega
  have gd3 : ∀ {α : Type} (x : Option α), sm_gd ((48 : Int32) * Int32.ofNat k + M 70 (2 * k)) 192 x = x := fun x => i_gd (by rw [e48]; omega) (by rw [e48]; omega)
  have gd4 : ∀ {α : Type} (x : Option α), sm_gd (M 70 (2 * k)) 24 x = x := fun x => i_gd (by omega) (by omega)
  have n1 : ¬ (70 = 3 + 14 * k + 1 + 1) := by omega
  have n2 : ¬ (70 = 3 + 14 * k + 1) := by omega
  have n3 : ¬ (3 + 14 * k + 1 = 3 + 14 * k + 1 + 1) := by omega
  have hx : M 70 (2 * k) + 1 - 1 = M 70 (2 * k) := by grind
  generalize hc : M 70 (2 * k) = c at *
  refine ⟨0, sm_up (sm_up M (3 + 14 * k + 1 + 1) c.toNatClampNeg e) (3 + 14 * k + 1) 1 (c + 1), vp_updL o 0 (Int32.toInt64 c), c, sm_up (sm_up (sm_up (sm_up (sm_up M (3 + 14 * k + 1 + 1) c.toNatClampNeg e) (3 + 14 * k + 1) 1 (c + 1)) 68 0 0) 69 (48 * k + c.toInt.toNat) e) 70 (2 * k) (c + 1), ?_, ?_, ?_, ?_, ?_⟩
  · simp only [f_Law_put, f_Mill_put, f_Instr_canBe, g, q, u, v, w, i_b1, i_bo1, gd1, i_nm, o_n k hk, f_Section_isFull, l_c k hk, hcc, he, f_Section_append, gd4, i_b2, i_up, n3, false_and, if_false, and_self, if_true, hx]
    simp [hf, gd4, i_b1, i_b2, hx]
  · simp only [f_Model_put, u_isC, w3, w18, w31, g, q, u, v, w, i_b1, j_Model_put_54, j_Model_put_84, gd2, o_2n k hk, i_nm, i_up, n1, n2, u_packed, he, hc]
    simp [hf, gd3, gd2, i_b1, en, hx, n1, n2, hc]
  · simp only [i_up]; simp
  · intro _; simp [vp_updL]
  · refine ⟨fun o' ho' => ?_, h.V.congr (by (intro k' j' w; (first | unfold ownP at w | unfold ownV at w | unfold ownI at w | unfold ownM at w | unfold ownC at w | unfold ownD at w | unfold ownN at w | unfold ownF at w | unfold ownX at w); simp only [i_up]; repeat rw [if_neg (by omega)])), h.I.congr (by (intro k' j' w; (first | unfold ownP at w | unfold ownV at w | unfold ownI at w | unfold ownM at w | unfold ownC at w | unfold ownD at w | unfold ownN at w | unfold ownF at w | unfold ownX at w); simp only [i_up]; repeat rw [if_neg (by omega)])), h.K.congr (by (intro k' j' w; (first | unfold ownP at w | unfold ownV at w | unfold ownI at w | unfold ownM at w | unfold ownC at w | unfold ownD at w | unfold ownN at w | unfold ownF at w | unfold ownX at w); simp only [i_up]; repeat rw [if_neg (by omega)]))⟩
    by_cases hkk : o' = k
    · subst hkk
      refine ⟨?_, hP.D.congr (by (intro k' j' w; (first | unfold ownP at w | unfold ownV at w | unfold ownI at w | unfold ownM at w | unfold ownC at w | unfold ownD at w | unfold ownN at w | unfold ownF at w | unfold ownX at w); simp only [i_up]; repeat rw [if_neg (by omega)])), hP.N.congr (by (intro k' j' w; (first | unfold ownP at w | unfold ownV at w | unfold ownI at w | unfold ownM at w | unfold ownC at w | unfold ownD at w | unfold ownN at w | unfold ownF at w | unfold ownX at w); simp only [i_up]; repeat rw [if_neg (by omega)])), hP.F.congr (by (intro k' j' w; (first | unfold ownP at w | unfold ownV at w | unfold ownI at w | unfold ownM at w | unfold ownC at w | unfold ownD at w | unfold ownN at w | unfold ownF at w | unfold ownX at w); simp only [i_up]; repeat rw [if_neg (by omega)])), ?_⟩
      · obtain ⟨x1, x2, x3⟩ := hP.C
        rw [t_n]
        have := t_inc (x := c) (by omega)
        refine ⟨?_, ?_, ?_⟩ <;> simp only [i_up] <;> grind
      · obtain ⟨x1, x2⟩ := hP.X
        have := t_inc (x := c) (by omega)
        refine ⟨?_, ?_⟩ <;> simp only [i_up] <;> grind
    · exact (h.P o' ho').congr (by (intro k' j' w; (first | unfold ownP at w | unfold ownV at w | unfold ownI at w | unfold ownM at w | unfold ownC at w | unfold ownD at w | unfold ownN at w | unfold ownF at w | unfold ownX at w); simp only [i_up]; repeat rw [if_neg (by omega)]))
