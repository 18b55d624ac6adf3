def w_fill (M : sm_M) (k : Nat) (g : Nat → Int32) : Nat → Nat → sm_M
  | _, 0 => M
  | a, n + 1 => w_fill (sm_up M k a (g a)) k g (a + 1) n
theorem w_fill_at (k : Nat) (g : Nat → Int32) : ∀ (n : Nat) (M : sm_M) (a x y : Nat), w_fill M k g a n x y = if x = k ∧ a ≤ y ∧ y < a + n then g y else M x y
  | 0, M, a, x, y => by rw [w_fill, if_neg (by omega)]
  | n + 1, M, a, x, y => by
    rw [w_fill, w_fill_at k g n, i_up]
    by_cases h1 : x = k ∧ a + 1 ≤ y ∧ y < a + 1 + n
    · rw [if_pos h1, if_pos (by omega)]
    · rw [if_neg h1]
      by_cases h2 : x = k ∧ y = a
      · rw [if_pos h2, if_pos (by omega), h2.2]
      · rw [if_neg h2, if_neg (by omega)]
theorem L_36 : (36 : Int32).toInt = 36 := rfl
theorem L_9 : (9 : Int32).toInt = 9 := rfl
theorem lp_43 (F : Nat → Int32) (N : Int32) (hN1 : N.toInt ≤ 241) : ∀ (f : Nat) (M : sm_M) (w : Int32), M 63 = F → M 64 4 + M 64 6 = N → 0 ≤ w.toInt → w.toInt ≤ N.toInt → N.toInt - w.toInt < f → sm_lp2 g_Machine_start_43 f M w = sm_lp2 g_Machine_start_80 1100 (w_fill M 65 (fun j => wd F (36 + 4 * j)) w.toInt.toNat (N.toInt - w.toInt).toNat) 0
  | 0, M, w, hF, hN, a0, a1, a2 => by omega
  | f + 1, M, w, hF, hN, a0, a1, a2 => by
    rw [lp2_s, g_Machine_start_43, hN]
    by_cases hc : N ≤ w
    · rw [if_pos hc]
      rw [t_le] at hc
      rw [show (N.toInt - w.toInt).toNat = 0 by omega, w_fill]
    · rw [if_neg hc]
      rw [t_le] at hc
      have e4 : ((4 : Int32) * w).toInt = 4 * w.toInt := by rw [Int32.toInt_mul, L_4, Int.bmod_def]; omega
      have e : ((36 : Int32) + (4 : Int32) * w).toInt = 36 + 4 * w.toInt := by rw [t_add, L_36, e4] <;> rw [L_36, e4] <;> omega
      have ei := t_inc (x := w) (by omega)
      rw [w_im M _ (by omega) (by omega), i_b1, i_gd (by omega) (by omega), i_nm, lp_43 F N hN1 f _ (w + 1) ?_ ?_ (by omega) (by omega) (by omega)]
      · rw [e, ei, show (N.toInt - w.toInt).toNat = (N.toInt - (w.toInt + 1)).toNat + 1 by omega, w_fill, t_n, show (w.toInt + 1).toNat = w.toInt.toNat + 1 by omega, hF, show (36 + 4 * w.toInt).toNat = 36 + 4 * w.toInt.toNat by omega]
      · funext j; rw [i_up, if_neg (by omega), hF]
      · rw [i_up, if_neg (by omega), i_up, if_neg (by omega), hN]
theorem lp_107 (F : Nat → Int32) (N : Int32) (hN1 : N.toInt ≤ 240 + 1) : ∀ (f : Nat) (M : sm_M) (w : Int32), M 86 = F → M 68 21 + M 68 23 = N → 0 ≤ w.toInt → w.toInt ≤ N.toInt → N.toInt - w.toInt < f → sm_lp2 g_Model_read_107 f M w = g_Model_read_107 (fun _ _ => none) (w_fill M 87 (fun j => wd F (36 + 4 * j)) w.toInt.toNat (N.toInt - w.toInt).toNat) N
  | 0, M, w, hF, hN, a0, a1, a2 => by omega
  | f + 1, M, w, hF, hN, a0, a1, a2 => by
    by_cases hc : N ≤ w
    · have hwN : w = N := by
        rw [t_le] at hc
        exact Int32.toInt_inj.mp (by omega)
      subst hwN
      rw [show (w.toInt - w.toInt).toNat = 0 by omega, w_fill, lp2_s, g_Model_read_107, g_Model_read_107, hN, if_pos hc, if_pos hc]
    · rw [lp2_s, g_Model_read_107, hN, if_neg hc]
      rw [t_le] at hc
      have e : ((9 : Int32) + w).toInt = 9 + w.toInt := by rw [t_add, L_9] <;> rw [L_9] <;> omega
      have ei := t_inc (x := w) (by omega)
      rw [w_mo M _ (by omega) (by omega), i_b1, i_gd (by omega) (by omega), i_nm, lp_107 F N hN1 f _ (w + 1) ?_ ?_ (by omega) (by omega) (by omega)]
      · rw [e, ei, show (N.toInt - w.toInt).toNat = (N.toInt - (w.toInt + 1)).toNat + 1 by omega, w_fill, t_n, show (w.toInt + 1).toNat = w.toInt.toNat + 1 by omega, hF, show (4 * (9 + w.toInt)).toNat = 36 + 4 * w.toInt.toNat by omega]
      · funext j; rw [i_up, if_neg (by omega), hF]
      · rw [i_up, if_neg (by omega), i_up, if_neg (by omega), hN]
theorem L_32 : (32 : Int32).toInt = 32 := rfl
theorem lp_80 : ∀ (f : Nat) (M : sm_M) (w : Int32), 0 ≤ w.toInt → w.toInt ≤ 32 → 32 - w.toInt < f → sm_lp2 g_Machine_start_80 f M w = some (sm_up (sm_up (sm_up (sm_up (z_fill M 66 w.toInt.toNat (32 - w.toInt).toNat) 64 7 1) 64 8 (wd (M 63) 4)) 64 9 0) 64 10 0)
  | 0, M, w, a0, a1, a2 => by omega
  | f + 1, M, w, a0, a1, a2 => by
    rw [lp2_s, g_Machine_start_80]
    by_cases hc : (32 : Int32) ≤ w
    · rw [if_pos hc]
      rw [t_le, L_32] at hc
      rw [show (32 - w.toInt).toNat = 0 by omega, z_fill]
      simp only [i_nm]
      rw [w_hd _ 1 (by decide) (by decide), i_b1]
      have e : sm_up M 64 7 1 63 = M 63 := funext fun j => by rw [i_up, if_neg (by omega)]
      rw [e]
      rfl
    · rw [if_neg hc]
      rw [t_le, L_32] at hc
      have ei := t_inc (x := w) (by omega)
      rw [i_gd (by omega) (by omega), i_nm, lp_80 f _ (w + 1) (by omega) (by omega) (by omega)]
      have e : sm_up M 66 w.toNatClampNeg 0 63 = M 63 := funext fun j => by rw [i_up, if_neg (by omega)]
      rw [e, ei, show (32 - w.toInt).toNat = (32 - (w.toInt + 1)).toNat + 1 by omega, z_fill, t_n, show (w.toInt + 1).toNat = w.toInt.toNat + 1 by omega]
theorem lp_166 : ∀ (f : Nat) (M : sm_M) (w : Int32), 0 ≤ w.toInt → w.toInt ≤ 32 → 32 - w.toInt < f → sm_lp2 g_Model_read_166 f M w = some (0, z_fill M 88 w.toInt.toNat (32 - w.toInt).toNat)
  | 0, M, w, a0, a1, a2 => by omega
  | f + 1, M, w, a0, a1, a2 => by
    rw [lp2_s, g_Model_read_166]
    by_cases hc : (32 : Int32) ≤ w
    · rw [if_pos hc]
      rw [t_le, L_32] at hc
      rw [show (32 - w.toInt).toNat = 0 by omega, z_fill]
    · rw [if_neg hc]
      rw [t_le, L_32] at hc
      have ei := t_inc (x := w) (by omega)
      rw [i_gd (by omega) (by omega), i_nm, lp_166 f _ (w + 1) (by omega) (by omega) (by omega)]
      rw [ei, show (32 - w.toInt).toNat = (32 - (w.toInt + 1)).toNat + 1 by omega, z_fill, t_n, show (w.toInt + 1).toNat = w.toInt.toNat + 1 by omega]
