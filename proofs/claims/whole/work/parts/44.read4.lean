theorem lp_166z (M : sm_M) : sm_lp2 g_Model_read_166 1100 M 0 = some (0, z_fill M 88 0 32) := by
  have h := lp_166 1100 M 0 (by decide) (by decide) (by decide)
  rw [t_0] at h
  exact h
theorem lp_80z (M : sm_M) : sm_lp2 g_Machine_start_80 1100 M 0 = some (sm_up (sm_up (sm_up (sm_up (z_fill M 66 0 32) 64 7 1) 64 8 (wd (M 63) 4)) 64 9 0) 64 10 0) := by
  have h := lp_80 1100 M 0 (by decide) (by decide) (by decide)
  rw [t_0] at h
  exact h
theorem lp_43z (F : Nat → Int32) (N : Int32) (hN1 : N.toInt ≤ 241) (M : sm_M) (hF : M 63 = F) (hN : M 64 4 + M 64 6 = N) (h0 : 0 ≤ N.toInt) : sm_lp2 g_Machine_start_43 1100 M 0 = sm_lp2 g_Machine_start_80 1100 (w_fill M 65 (fun j => wd F (36 + 4 * j)) 0 N.toInt.toNat) 0 := by
  have h := lp_43 F N hN1 1100 M 0 hF hN (by decide) (by rw [t_0]; exact h0) (by rw [t_0]; omega)
  rw [t_0, show (N.toInt - 0).toNat = N.toInt.toNat by omega] at h
  exact h
theorem lp_107z (F : Nat → Int32) (N : Int32) (hN1 : N.toInt ≤ 241) (M : sm_M) (hF : M 86 = F) (hN : M 68 21 + M 68 23 = N) (h0 : 0 ≤ N.toInt) : sm_lp2 g_Model_read_107 1100 M 0 = g_Model_read_107 (fun _ _ => none) (w_fill M 87 (fun j => wd F (36 + 4 * j)) 0 N.toInt.toNat) N := by
  have h := lp_107 F N hN1 1100 M 0 hF hN (by decide) (by rw [t_0]; exact h0) (by rw [t_0]; omega)
  rw [t_0, show (N.toInt - 0).toNat = N.toInt.toNat by omega] at h
  exact h
theorem st_A {M : sm_M} {H2 H3 H5 H6 N : Int32} (e2 : wd (M 63) 8 = H2) (e3 : wd (M 63) 12 = H3) (e5 : wd (M 63) 20 = H5) (e6 : wd (M 63) 24 = H6) (hN : H3 / 4 + H6 / 4 = N) (n0 : 0 ≤ N.toInt) (n1 : N.toInt ≤ 241) : f_Machine_start M = some (sm_up (sm_up (sm_up (sm_up (z_fill (w_fill (sm_up (sm_up (sm_up (sm_up M 64 3 H2) 64 4 (H3 / 4)) 64 5 H5) 64 6 (H6 / 4)) 65 (fun j => wd (M 63) (36 + 4 * j)) 0 N.toInt.toNat) 66 0 32) 64 7 1) 64 8 (wd (M 63) 4)) 64 9 0) 64 10 0) := by
  have q : ∀ (M' : sm_M) (j : Nat) (x : Int32), sm_up M' 64 j x 63 = M' 63 := fun M' j x => funext fun i => by rw [i_up, if_neg (by omega)]
  have q2 : ∀ (M' : sm_M) (g : Nat → Int32) (a m : Nat), w_fill M' 65 g a m 63 = M' 63 := fun M' g a m => funext fun i => by rw [w_fill_at, if_neg (by omega)]
  rw [f_Machine_start, w_hd M 2 (by decide) (by decide), i_b1, i_nm, w_hd _ 3 (by decide) (by decide), i_b1, i_nm, w_hd _ 5 (by decide) (by decide), i_b1, i_nm, w_hd _ 6 (by decide) (by decide), i_b1, i_nm]
  simp only [q]
  rw [show (4 * (2 : Int32).toInt).toNat = 8 from rfl, show (4 * (3 : Int32).toInt).toNat = 12 from rfl, show (4 * (5 : Int32).toInt).toNat = 20 from rfl, show (4 * (6 : Int32).toInt).toNat = 24 from rfl, e2, e3, e5, e6]
  rw [lp_43z (M 63) N n1 _ (by simp only [q]) (by rw [i_up, if_neg (by omega), i_up, if_neg (by omega), i_up, if_pos ⟨rfl, rfl⟩, i_up, if_pos ⟨rfl, rfl⟩]; exact hN) n0, lp_80z]
  simp only [q2, q]
theorem t_div4 (x : Int32) (h0 : 0 ≤ x.toInt) : (x / 4).toInt = x.toInt / 4 := by
  have h2 := Int32.toInt_lt x
  rw [Int32.toInt_div, L_4, Int.tdiv_eq_ediv_of_nonneg h0, Int.bmod_def]
  omega
theorem st_B {B : sm_M} {H2 H3 H5 H6 N : Int32} (f : Nat) (e2 : wd (B 86) 8 = H2) (e3 : wd (B 86) 12 = H3) (e5 : wd (B 86) 20 = H5) (e6 : wd (B 86) 24 = H6) (hN : H3 / 4 + H6 / 4 = N) (n0 : 0 ≤ N.toInt) (n1 : N.toInt ≤ 241) (hs : B 68 18 = 36 + H3 + H6) : sm_lp1 (g_Model_read_7 B) (f + 1) 9 = some (0, z_fill (sm_up (sm_up (sm_up (sm_up (w_fill (sm_up (sm_up (sm_up (sm_up B 68 20 H2) 68 21 (H3 / 4)) 68 22 H5) 68 23 (H6 / 4)) 87 (fun j => wd (B 86) (36 + 4 * j)) 0 N.toInt.toNat) 68 26 (wd (B 86) 4)) 68 25 1) 68 27 0) 68 29 0) 88 0 32) := by
  have q : ∀ (M' : sm_M) (j : Nat) (x : Int32), sm_up M' 68 j x 86 = M' 86 := fun M' j x => funext fun i => by rw [i_up, if_neg (by omega)]
  have q2 : ∀ (M' : sm_M) (g : Nat → Int32) (a m : Nat), w_fill M' 87 g a m 86 = M' 86 := fun M' g a m => funext fun i => by rw [w_fill_at, if_neg (by omega)]
  rw [lp1_s, g_Model_read_7, if_pos (by decide), w_mo B 3 (by decide) (by decide), i_b1, w_mo B 6 (by decide) (by decide), i_b1, show (4 * (3 : Int32).toInt).toNat = 12 from rfl, show (4 * (6 : Int32).toInt).toNat = 24 from rfl, e3, e6, if_pos hs]
  rw [w_mo B 2 (by decide) (by decide), i_b1, i_nm, w_mo _ 3 (by decide) (by decide), i_b1, i_nm, w_mo _ 5 (by decide) (by decide), i_b1, i_nm, w_mo _ 6 (by decide) (by decide), i_b1, i_nm]
  simp only [q]
  rw [show (4 * (2 : Int32).toInt).toNat = 8 from rfl, show (4 * (3 : Int32).toInt).toNat = 12 from rfl, show (4 * (5 : Int32).toInt).toNat = 20 from rfl, show (4 * (6 : Int32).toInt).toNat = 24 from rfl, e2, e3, e5, e6]
  rw [lp_107z (B 86) N n1 _ (by simp only [q]) (by rw [i_up, if_neg (by omega), i_up, if_neg (by omega), i_up, if_pos ⟨rfl, rfl⟩, i_up, if_pos ⟨rfl, rfl⟩]; exact hN) n0]
  have x86 : w_fill (sm_up (sm_up (sm_up (sm_up B 68 20 H2) 68 21 (H3 / 4)) 68 22 H5) 68 23 (H6 / 4)) 87 (fun j => wd (B 86) (36 + 4 * j)) 0 N.toInt.toNat 86 = B 86 := by rw [q2]; simp only [q]
  have xN : w_fill (sm_up (sm_up (sm_up (sm_up B 68 20 H2) 68 21 (H3 / 4)) 68 22 H5) 68 23 (H6 / 4)) 87 (fun j => wd (B 86) (36 + 4 * j)) 0 N.toInt.toNat 68 21 + w_fill (sm_up (sm_up (sm_up (sm_up B 68 20 H2) 68 21 (H3 / 4)) 68 22 H5) 68 23 (H6 / 4)) 87 (fun j => wd (B 86) (36 + 4 * j)) 0 N.toInt.toNat 68 23 = N := by
    rw [w_fill_at, if_neg (by omega), w_fill_at, if_neg (by omega), i_up, if_neg (by omega), i_up, if_neg (by omega), i_up, if_pos ⟨rfl, rfl⟩, i_up, if_pos ⟨rfl, rfl⟩]
    exact hN
  generalize w_fill (sm_up (sm_up (sm_up (sm_up B 68 20 H2) 68 21 (H3 / 4)) 68 22 H5) 68 23 (H6 / 4)) 87 (fun j => wd (B 86) (36 + 4 * j)) 0 N.toInt.toNat = X at *
  rw [g_Model_read_107, xN, if_pos (Int32.le_refl _), w_mo X 1 (by decide) (by decide), i_b1]
  rw [i_nm, i_nm, i_nm, i_nm]
  rw [x86, show (4 * (1 : Int32).toInt).toNat = 4 from rfl]
  exact lp_166z _

theorem op_read {n : Nat} {M : sm_M} (h : Inv n M) : ∃ r M1 M2, f_Mill_read M = some (r, M1) ∧ f_Model_read M1 = some (r, M2) ∧ Inv n M2 := by
  have him := h.I.im
  have hs := h.I.sz
  obtain ⟨s0, s1⟩ := h.I.szr
  have hB : (∀ j : Nat, j < 1000 → M 63 j = (sm_up M 68 0 0) 86 j) := fun j hj => by rw [i_up, if_neg (by omega)]; exact him j hj
  have hsB : M 62 1 = (sm_up M 68 0 0) 68 18 := by rw [i_up, if_neg (by omega)]; exact hs
  have e86 : (sm_up M 68 0 0) 86 = M 86 := funext fun i => by rw [i_up, if_neg (by omega)]
  have hB18 : (sm_up M 68 0 0) 68 18 = M 68 18 := by rw [i_up, if_neg (by omega)]
  rcases rd_all hsB hB 1091 with ⟨r, r0, f1, f2⟩ | ⟨f1, f2, c3, c6⟩
  · refine ⟨r, M, sm_up M 68 0 0, ?_, ?_, h.thr 0⟩
    · have : f_Reader_faultOf M = some r := f1
      rw [f_Mill_read, this, i_b1, if_neg r0]
    · rw [f_Model_read, i_nm]; exact f2
  rw [e86] at c3 c6
  have k3 : wd (M 63) 12 = wd (M 86) 12 := w_eq him (by omega)
  have k6 : wd (M 63) 24 = wd (M 86) 24 := w_eq him (by omega)
  have fc : f_Reader_faultOf M = if M 68 18 = 36 + wd (M 86) 12 + wd (M 86) 24 then some 0 else some (-10) := by
    have : f_Reader_faultOf M = sm_lp1 (g_Reader_faultOf_2 M) (1090 + 1) 9 := f1
    rw [this, lp1_s, g_Reader_faultOf_2, if_pos (by decide), w_hd M 3 (by decide) (by decide), i_b1, w_hd M 6 (by decide) (by decide), i_b1, i_nm, show (4 * (3 : Int32).toInt).toNat = 12 from rfl, show (4 * (6 : Int32).toInt).toNat = 24 from rfl, k3, k6, hs]
  by_cases hz : M 68 18 = 36 + wd (M 86) 12 + wd (M 86) 24
  · rw [if_pos hz] at fc
    obtain ⟨u1, u2, u3⟩ := c3
    obtain ⟨v1, v2, v3⟩ := c6
    rw [t_le] at u1 u2 v1 v2
    have L4096 : (4096 : Int32).toInt = 4096 := rfl
    rw [L_4] at u1
    rw [L4096] at u2 v2
    rw [t_0] at v1
    have z1 : (36 + wd (M 86) 12).toInt = 36 + (wd (M 86) 12).toInt := by rw [t_add, L_36] <;> rw [L_36] <;> omega
    have z2 : (36 + wd (M 86) 12 + wd (M 86) 24).toInt = 36 + (wd (M 86) 12).toInt + (wd (M 86) 24).toInt := by rw [t_add, z1] <;> rw [z1] <;> omega
    have z3 : (wd (M 86) 12).toInt + (wd (M 86) 24).toInt ≤ 964 := by rw [hz, z2] at s1; omega
    have d3 := t_div4 (wd (M 86) 12) (by omega)
    have d6 := t_div4 (wd (M 86) 24) (by omega)
    have z4 : (wd (M 86) 12 / 4 + wd (M 86) 24 / 4).toInt = (wd (M 86) 12).toInt / 4 + (wd (M 86) 24).toInt / 4 := by rw [t_add, d3, d6] <;> rw [d3, d6] <;> omega
    generalize hN : wd (M 86) 12 / 4 + wd (M 86) 24 / 4 = N at *
    have sA := st_A (M := M) (H2 := wd (M 86) 8) (H3 := wd (M 86) 12) (H5 := wd (M 86) 20) (H6 := wd (M 86) 24) (N := N) (w_eq him (by omega)) k3 (w_eq him (by omega)) k6 hN (by omega) (by omega)
    generalize hM1 : (sm_up (sm_up (sm_up (sm_up (z_fill (w_fill (sm_up (sm_up (sm_up (sm_up M 64 3 (wd (M 86) 8)) 64 4 (wd (M 86) 12 / 4)) 64 5 (wd (M 86) 20)) 64 6 (wd (M 86) 24 / 4)) 65 (fun j => wd (M 63) (36 + 4 * j)) 0 N.toInt.toNat) 66 0 32) 64 7 1) 64 8 (wd (M 63) 4)) 64 9 0) 64 10 0) = M1 at sA
    have fr : ∀ k j, ¬ (64 ≤ k ∧ k ≤ 66) → M1 k j = M k j := fun k j w => by
      rw [← hM1]
      simp only [i_up, z_fill_at, w_fill_at]
      repeat rw [if_neg (by omega)]
    have g86 : (sm_up M1 68 0 0) 86 = M 86 := funext fun i => by rw [i_up, if_neg (by omega), fr _ _ (by omega)]
    have g18 : (sm_up M1 68 0 0) 68 18 = M 68 18 := by rw [i_up, if_neg (by omega), fr _ _ (by omega)]
    have hB2 : (∀ j : Nat, j < 1000 → M 63 j = (sm_up M1 68 0 0) 86 j) := fun j hj => by rw [g86]; exact him j hj
    rcases rd_all (A := M) (B := sm_up M1 68 0 0) (by rw [g18]; exact hs) hB2 1091 with ⟨r, r0, p1, -⟩ | ⟨-, p2, -, -⟩
    · have : f_Reader_faultOf M = some r := p1
      rw [fc] at this
      cases this
      exact absurd rfl r0
    have sB := st_B (B := sm_up M1 68 0 0) (H2 := wd (M 86) 8) (H3 := wd (M 86) 12) (H5 := wd (M 86) 20) (H6 := wd (M 86) 24) (N := N) 1090 (by rw [g86]) (by rw [g86]) (by rw [g86]) (by rw [g86]) hN (by omega) (by omega) (by rw [g18]; exact hz)
    rw [g86] at sB
    refine ⟨0, M1, _, by rw [f_Mill_read, fc, i_b1, if_pos rfl, sA, i_b1], by rw [f_Model_read, i_nm]; exact p2.trans sB, ?_⟩
    generalize hB3 : z_fill (sm_up (sm_up (sm_up (sm_up (w_fill (sm_up (sm_up (sm_up (sm_up (sm_up M1 68 0 0) 68 20 (wd (M 86) 8)) 68 21 (wd (M 86) 12 / 4)) 68 22 (wd (M 86) 20)) 68 23 (wd (M 86) 24 / 4)) 87 (fun j => wd (M 86) (36 + 4 * j)) 0 N.toInt.toNat) 68 26 (wd (M 86) 4)) 68 25 1) 68 27 0) 68 29 0) 88 0 32 = B3
    have fr2 : ∀ k j, ¬ (64 ≤ k ∧ k ≤ 66) → ¬ (k = 87 ∨ k = 88) → ¬ (k = 68 ∧ (j = 0 ∨ 20 ≤ j)) → B3 k j = M k j := fun k j w1 w2 w3 => by
      rw [← fr k j w1, ← hB3]
      simp only [i_up, z_fill_at, w_fill_at]
      repeat rw [if_neg (by omega)]
    have cl : ∀ k j, k < 68 → B3 k j = M1 k j := fun k j w => by
      rw [← hB3]
      simp only [i_up, z_fill_at, w_fill_at]
      repeat rw [if_neg (by omega)]
    refine ⟨fun o' ho' => (h.P o' ho').congr (fun k j w => by unfold ownP at w; exact fr2 k j (by omega) (by omega) (by omega)), h.V.congr (fun k j w => by unfold ownV at w; exact fr2 k j (by omega) (by omega) (by omega)), h.I.congr (fun k j w => by unfold ownI at w; exact fr2 k j (by omega) (by omega) (by omega)), ?_⟩
    have w4 : wd (M 63) 4 = wd (M 86) 4 := w_eq him (by omega)
    have hln := h.K.ln
    have hmw := h.K.mw
    refine MInv2.congr (A := M1) (B := B3) ?_ (fun k j w => cl k j (by omega)) (fun _ _ _ => rfl)
    rw [← hM1, ← hB3]
    have x21 : (wd (M 86) 12 / 4).toInt + (wd (M 86) 24 / 4).toInt ≤ 241 := by omega
    refine ⟨?_, ?_, ?_, ?_, ?_, ?_, ?_, ?_, ?_, ?_, ?_, ?_, ?_, ?_, ?_⟩
    · (simp only [i_up, z_fill_at, w_fill_at]; (repeat (first | rw [if_neg (by omega)] | rw [if_pos (by omega)])); first | done | (simp; done) | grind (splits := 30))
    · (simp only [i_up, z_fill_at, w_fill_at]; (repeat (first | rw [if_neg (by omega)] | rw [if_pos (by omega)])); first | done | (simp; done) | grind (splits := 30))
    · (simp only [i_up, z_fill_at, w_fill_at]; (repeat (first | rw [if_neg (by omega)] | rw [if_pos (by omega)])); first | done | (simp; done) | grind (splits := 30))
    · (simp only [i_up, z_fill_at, w_fill_at]; (repeat (first | rw [if_neg (by omega)] | rw [if_pos (by omega)])); first | done | (simp; done) | grind (splits := 30))
    · (simp only [i_up, z_fill_at, w_fill_at]; (repeat (first | rw [if_neg (by omega)] | rw [if_pos (by omega)])); first | done | (simp; done) | grind (splits := 30))
    · simp only [i_up, z_fill_at, w_fill_at]; simp [w4]
    · (simp only [i_up, z_fill_at, w_fill_at]; (repeat (first | rw [if_neg (by omega)] | rw [if_pos (by omega)])); first | done | (simp; done) | grind (splits := 30))
    · (simp only [i_up, z_fill_at, w_fill_at]; (repeat (first | rw [if_neg (by omega)] | rw [if_pos (by omega)])); first | done | (simp; done) | grind (splits := 30))
    · intro j hj
      simp only [i_up, z_fill_at, w_fill_at]
      simp [hj]
    · simp [i_up, z_fill_at, w_fill_at]
    · intro j hj
      simp only [i_up, z_fill_at, w_fill_at]
      by_cases hjn : j < N.toInt.toNat
      · repeat (first | rw [if_neg (by omega)] | rw [if_pos ⟨trivial, by omega, by omega⟩] | rw [if_pos (by omega)])
        exact w_eq (i := 36 + 4 * j) him (by omega)
      · repeat (first | rw [if_neg (by omega)] | rw [if_pos (by omega)])
        rw [fr _ _ (by omega)]
        exact hmw j hj
    · intro j hj
      simp only [i_up, z_fill_at, w_fill_at]
      repeat (first | rw [if_neg (by omega)] | rw [if_pos (by omega)])
      rw [fr _ _ (by omega)]
      exact hln j hj
    · simp only [i_up, z_fill_at, w_fill_at]
      repeat (first | rw [if_neg (by omega)] | rw [if_pos (by omega)] | rw [if_pos ⟨trivial, trivial⟩])
      omega
    · simp [i_up, z_fill_at, w_fill_at]
    · simp [i_up, z_fill_at, w_fill_at]
  · rw [if_neg hz] at fc
    refine ⟨-10, M, sm_up M 68 0 0, by rw [f_Mill_read, fc, i_b1, if_neg (by decide)], ?_, h.thr 0⟩
    rw [f_Model_read, i_nm]
    refine f2.trans ?_
    rw [show (1091 : Nat) = 1090 + 1 from rfl, lp1_s, g_Model_read_7, if_pos (by decide), w_mo _ 3 (by decide) (by decide), i_b1, w_mo _ 6 (by decide) (by decide), i_b1, show (4 * (3 : Int32).toInt).toNat = 12 from rfl, show (4 * (6 : Int32).toInt).toNat = 24 from rfl, e86, hB18, if_neg hz]
