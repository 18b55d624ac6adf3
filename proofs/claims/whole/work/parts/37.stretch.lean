/-- zeroes from a on, n of them -/
def z_fill (M : sm_M) (k : Nat) : Nat → Nat → sm_M
  | _, 0 => M
  | a, n + 1 => z_fill (sm_up M k a 0) k (a + 1) n
theorem z_fill_at (k : Nat) : ∀ (n : Nat) (M : sm_M) (a x y : Nat), z_fill M k a n x y = if x = k ∧ a ≤ y ∧ y < a + n then 0 else M x y
  | 0, M, a, x, y => by rw [z_fill, if_neg (by omega)]
  | n + 1, M, a, x, y => by
    rw [z_fill, z_fill_at k n, i_up]
    by_cases h1 : x = k ∧ a + 1 ≤ y ∧ y < a + 1 + n
    · rw [if_pos h1, if_pos (by omega)]
    · rw [if_neg h1]
      by_cases h2 : x = k ∧ y = a
      · rw [if_pos h2, if_pos (by omega)]
      · rw [if_neg h2, if_neg (by omega)]
theorem n_of {w : Int32} (h : 0 ≤ w.toInt) : (w.toNatClampNeg : Int) = w.toInt := by rw [t_n]; omega
theorem lp_resize (w1 : Int32) (h1 : w1.toInt ≤ 1000) : ∀ (f : Nat) (M : sm_M) (w : Int32), 0 ≤ w.toInt → w.toInt ≤ 1000 → w1.toInt - w.toInt < f → 1 ≤ f → sm_lp2 (g_Image_resize_5 w1) f M w = some (sm_up (z_fill M 63 w.toInt.toNat (w1.toInt - w.toInt).toNat) 62 1 w1)
  | 0, M, w, a0, a1, a2, a3 => by
    omega
  | f + 1, M, w, a0, a1, a2, a3 => by
    show g_Image_resize_5 w1 (sm_lp2 (g_Image_resize_5 w1) f) M w = _
    rw [g_Image_resize_5]
    simp only [t_le, i_nm]
    by_cases hc : w1.toInt ≤ w.toInt
    · rw [if_pos hc, show (w1.toInt - w.toInt).toNat = 0 by omega, z_fill]
    · have e := t_inc (x := w) (by omega)
      rw [if_neg hc, i_gd (by omega) (by omega), lp_resize w1 h1 f _ (w + 1) (by omega) (by omega) (by omega) (by omega), e, show (w1.toInt - w.toInt).toNat = (w1.toInt - (w.toInt + 1)).toNat + 1 by omega, z_fill, t_n, show (w.toInt + 1).toNat = w.toInt.toNat + 1 by omega]
theorem lp_stretch (w1 : Int64) (h0 : 0 ≤ w1.toInt) (h1 : w1.toInt ≤ 1000) : ∀ (f : Nat) (M : sm_M) (w : Int32), 0 ≤ w.toInt → w.toInt ≤ 1000 → w1.toInt - w.toInt < f → 1 ≤ f → sm_lp2 (g_Model_stretch_47 w1) f M w = some (w1.toInt32, sm_up (z_fill M 86 w.toInt.toNat (w1.toInt - w.toInt).toNat) 68 18 w1.toInt32)
  | 0, M, w, a0, a1, a2, a3 => by
    omega
  | f + 1, M, w, a0, a1, a2, a3 => by
    show g_Model_stretch_47 w1 (sm_lp2 (g_Model_stretch_47 w1) f) M w = _
    rw [g_Model_stretch_47]
    simp only [l_ge, i_nm, Int32.toInt_toInt64]
    by_cases hc : w1.toInt ≤ w.toInt
    · rw [if_pos hc, show (w1.toInt - w.toInt).toNat = 0 by omega, z_fill]
      simp [i_up]
    · have e := t_inc (x := w) (by omega)
      rw [if_neg hc, i_gd (by omega) (by omega), lp_stretch w1 h0 h1 f _ (w + 1) (by omega) (by omega) (by omega) (by omega), e, show (w1.toInt - w.toInt).toNat = (w1.toInt - (w.toInt + 1)).toNat + 1 by omega, z_fill, t_n, show (w.toInt + 1).toNat = w.toInt.toNat + 1 by omega]
theorem op_stretch {n : Nat} {M : sm_M} (h : Inv n M) (o : sm_O) (a0 : Int32) : opOK n (f_Law_stretch M o a0) (fun M1 => f_Model_stretch M1 a0) := by
  have hs := h.I.sz
  obtain ⟨r0, r1⟩ := h.I.szr
  have L : (1000 : Int64).toInt = 1000 := rfl
  have e := q_add (M 68 18) a0
  have sf : ∀ y, j_Model_stretch_24 M y = some (0, sm_up M 68 0 1) := fun y => by simp [j_Model_stretch_24, j_Model_stretch_29, i_nm, i_up]
  by_cases k1 : (M 68 18).toInt + a0.toInt < 0
  · refine ok_fail h o 1 0 (by decide) ?_ ?_
    · simp [f_Law_stretch, f_Mill_stretch, i_nm, hs, l_lt, e, l_0, k1, i_b1]
    · simp [f_Model_stretch, i_nm, l_lt, e, l_0, k1, sf]
  by_cases k2 : (M 68 18).toInt + a0.toInt ≤ 1000
  · have e32 : ((M 68 18).toInt64 + a0.toInt64).toInt32.toInt = (M 68 18).toInt + a0.toInt := by rw [q_32 _ (by omega) (by omega), e]
    generalize hX : (M 68 18).toInt64 + a0.toInt64 = X at *
    refine ⟨0, sm_up (z_fill M 63 (M 68 18).toInt.toNat (X.toInt32.toInt - (M 68 18).toInt).toNat) 62 1 X.toInt32, vp_updL o 0 (X.toInt32.toInt64), X.toInt32, sm_up (z_fill (sm_up (sm_up (z_fill M 63 (M 68 18).toInt.toNat (X.toInt32.toInt - (M 68 18).toInt).toNat) 62 1 X.toInt32) 68 0 0) 86 (M 68 18).toInt.toNat (X.toInt - (M 68 18).toInt).toNat) 68 18 X.toInt32, ?_, ?_, ?_, ?_, ?_⟩
    · simp only [f_Law_stretch, f_Mill_stretch, i_nm, hs, hX, l_lt, l_le, e, l_0, L, k1, k2, i_b1, if_false, if_true, f_Image_resize]
      rw [lp_resize _ (by omega) 1100 M _ r0 r1 (by omega) (by omega)]
      simp [i_b1, i_up]
    · simp only [f_Model_stretch, i_nm, i_up, z_fill_at]
      simp only [show ¬ (68 = 62 ∧ 18 = 1) by omega, show ¬ (68 = 63 ∧ (M 68 18).toInt.toNat ≤ 18 ∧ 18 < (M 68 18).toInt.toNat + (X.toInt32.toInt - (M 68 18).toInt).toNat) by omega, if_false, hX, l_lt, l_le, e, l_0, L, k1, k2, if_true, j_Model_stretch_29, i_nm]
      simp only [i_up, z_fill_at]
      rw [if_pos (by simp)]
      simp only [show ¬ (68 = 68 ∧ 18 = 0) by omega, show ¬ (68 = 62 ∧ 18 = 1) by omega, show ¬ (68 = 63 ∧ (M 68 18).toInt.toNat ≤ 18 ∧ 18 < (M 68 18).toInt.toNat + (X.toInt32.toInt - (M 68 18).toInt).toNat) by omega, if_false]
      simp only [true_and, show ¬ ((18 : Nat) = 0) by omega, if_false]
      have hl := lp_stretch X (by omega) (by omega) 1100 (sm_up (sm_up (z_fill M 63 (M 68 18).toInt.toNat (X.toInt32.toInt - (M 68 18).toInt).toNat) 62 1 X.toInt32) 68 0 0) _ r0 r1 (by omega) (by omega)
      rw [e] at hl
      exact hl
    · simp [i_up, z_fill_at]
    · intro _; simp [vp_updL]
    · refine ⟨fun o' ho' => (h.P o' ho').congr ?_, h.V.congr ?_, ?_, h.K.congr ?_⟩
      · intro k' j' w
        unfold ownP at w
        simp only [i_up, z_fill_at]
        repeat rw [if_neg (by omega)]
      · intro k' j' w
        unfold ownV at w
        simp only [i_up, z_fill_at]
        repeat rw [if_neg (by omega)]
      · have hi := h.I.im
        refine ⟨?_, ?_, ?_⟩
        · simp [i_up, z_fill_at]
        · simp only [i_up, z_fill_at]
          simp only [and_self, if_true]
          omega
        · intro j hj
          simp only [i_up, z_fill_at, e, e32]
          by_cases hjj : (M 68 18).toInt.toNat ≤ j ∧ j < (M 68 18).toInt.toNat + ((M 68 18).toInt + a0.toInt - (M 68 18).toInt).toNat
          · simp only [hjj, true_and, and_true, and_self, if_true, if_false]
            (repeat (first | rw [if_neg (by omega)] | rw [if_pos (by omega)]))
            first | done | simp
          · simp only [hjj, true_and, and_true, and_false, if_true, if_false]
            (repeat (first | rw [if_neg (by omega)] | rw [if_pos (by omega)]))
            exact hi j hj
      · intro k' j' w
        unfold ownM at w
        simp only [i_up, z_fill_at]
        repeat rw [if_neg (by omega)]
  · refine ok_fail h o 1 0 (by decide) ?_ ?_
    · simp [f_Law_stretch, f_Mill_stretch, i_nm, hs, l_lt, l_le, e, l_0, L, k1, k2, i_b1]
    · simp [f_Model_stretch, i_nm, l_lt, l_le, e, l_0, L, k1, k2, sf]
