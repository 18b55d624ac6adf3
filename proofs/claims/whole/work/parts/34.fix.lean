theorem f_fail (M : sm_M) (a0 a1 a2 a3 a4 a5 : Int32) : j_Model_fix_81 M a0 a1 a2 a3 a4 a5 = some (0, sm_up M 68 0 1) := by
  simp [j_Model_fix_81, j_Model_fix_82, j_Model_fix_110, i_nm, i_up]
theorem c_add (a : Int32) : ((a < -20000 ∨ ¬ a ≤ 20000) ∧ f_Model_within a (-20000) 20000 = some 0) ∨ (¬ a < -20000 ∧ a ≤ 20000 ∧ f_Model_within a (-20000) 20000 = some 1) := by
  unfold f_Model_within
  grind
theorem u_within1 (a m : Int32) (h0 : 0 ≤ m.toInt) (h1 : m.toInt ≤ 24) : f_Model_within a 0 (m - 1) = f_Mill_isBelow a m := by
  have h0 : 0 ≤ m := by rw [Int32.le_iff_toInt_le]; exact h0
  have h1 : m ≤ 24 := by rw [Int32.le_iff_toInt_le]; exact h1
  simp only [f_Model_within, f_Mill_isBelow]
  grind
theorem XInv.step {M M' : sm_M} {o : Nat} {c S p : Int32} (h : XInv M o) (c0 : 0 ≤ c.toInt) (c1 : c.toInt < 16) (hc : M 76 o = c) (e76 : M' 76 o = c + 1) (e77 : ∀ j : Nat, j < 16 → M' 77 (16 * o + j) = if j = c.toInt.toNat then S else M 77 (16 * o + j)) (e78 : ∀ j : Nat, j < 16 → M' 78 (16 * o + j) = if j = c.toInt.toNat then p else M 78 (16 * o + j)) (e70 : M' 70 (2 * o) = M 70 (2 * o)) (e70' : M' 70 (2 * o + 1) = M 70 (2 * o + 1)) (hS : (S = 0 ∧ p.toInt < (M 70 (2 * o)).toInt) ∨ (S = 1 ∧ p.toInt < (M 70 (2 * o + 1)).toInt)) : XInv M' o := by
  have hi := t_inc (x := c) (by omega)
  have n01 : ¬ (0 : Int32) = 1 := by decide
  have n10 : ¬ (1 : Int32) = 0 := by decide
  refine ⟨?_, ?_⟩
  · intro j hj h1 h2
    rw [e76, hi] at h1
    rw [e77 j hj] at h2
    rw [e78 j hj, e70]
    by_cases hjc : j = c.toInt.toNat
    · rw [if_pos hjc] at h2 ⊢
      rcases hS with ⟨-, hS⟩ | ⟨hS, -⟩
      · exact hS
      · rw [hS] at h2; exact absurd h2 n10
    · rw [if_neg hjc] at h2 ⊢
      exact h.xc j hj (by rw [hc]; omega) h2
  · intro j hj h1 h2
    rw [e76, hi] at h1
    rw [e77 j hj] at h2
    rw [e78 j hj, e70']
    by_cases hjc : j = c.toInt.toNat
    · rw [if_pos hjc] at h2 ⊢
      rcases hS with ⟨hS, -⟩ | ⟨-, hS⟩
      · rw [hS] at h2; exact absurd h2 n01
      · exact hS
    · rw [if_neg hjc] at h2 ⊢
      exact h.xd j hj (by rw [hc]; omega) h2
set_option maxHeartbeats 1000000 in
theorem op_fix {n : Nat} {M : sm_M} (h : Inv n M) (o : sm_O) (a0 a1 a2 a3 a4 a5 : Int32) : opOK n (f_Law_fix M o a0 a1 a2 a3 a4 a5) (fun M1 => f_Model_fix M1 a0 a1 a2 a3 a4 a5) := by
  rcases c_bel a0 4 with ⟨g, -⟩ | ⟨g, g1, g2⟩
  · exact ok_fail h o 1 0 (by decide) (by simp [f_Law_fix, f_Mill_fix, g, i_b1]) (by simp [f_Model_fix, w3, g, i_b1, f_fail])
  rcases c_sec a1 with ⟨u, u'⟩ | ⟨s, hs, rfl, u, u'⟩
  · exact ok_fail h o 1 0 (by decide) (by simp [f_Law_fix, f_Mill_fix, g, u, i_b1]) (by simp [f_Model_fix, w3, g, u', i_b1, f_fail])
  obtain ⟨k, hk, rfl⟩ := c_o4 g1 g2
  have hP := h.P k hk
  obtain ⟨hcnt, c0, c1⟩ := c_cnt hP hs
  have gd1 : ∀ {α : Type} (x : Option α), sm_gd (Int32.ofNat k) 4 x = x := fun x => i_gd (by rw [o_t k hk]; omega) (by rw [o_t k hk]; omega)
  have gd2 : ∀ {α : Type} (x : Option α), sm_gd ((2 : Int32) * (Int32.ofNat k &&& 3) + (Int32.ofNat s &&& 1)) 8 x = x := fun x => i_gd (by rw [o_ks k hk s hs]; omega) (by rw [o_ks k hk s hs]; omega)
  have en2 : ((2 : Int32) * (Int32.ofNat k &&& 3) + (Int32.ofNat s &&& 1)).toNatClampNeg = 2 * k + s := by rw [t_n, o_ks k hk s hs]; omega
  have wc : f_Model_within a2 0 (M 70 (2 * k + s) - 1) = f_Mill_isBelow a2 (M 70 (2 * k + s)) := u_within1 _ _ c0 c1
  have hb : M (3 + 14 * k) 12 = M 76 k := hP.F.nf
  have hbr := hP.F.nfr
  have hfail : ∀ {x : Option (Int32 × sm_M × sm_O)} {y : sm_M → Option (Int32 × sm_M)}, x = some (1, M, o) → y M = some (0, sm_up M 68 0 1) → opOK n x y := fun hx hy => ok_fail h o 1 0 (by decide) hx hy
  rcases c_bel a3 5 with ⟨q, -⟩ | ⟨q, q1, q2⟩
  · refine hfail (by simp [f_Law_fix, f_Mill_fix, g, q, u, i_b1]) ?_
    rcases c_bel a2 (M 70 (2 * k + s)) with ⟨v, -⟩ | ⟨v, v1, v2⟩ <;> simp [f_Model_fix, w3, w4, g, q, u', i_b1, f_fail, gd2, en2, wc, v]
  rcases c_bel a4 16 with ⟨t, -⟩ | ⟨t, t1, t2⟩
  · refine hfail (by simp [f_Law_fix, f_Mill_fix, g, q, u, t, i_b1]) ?_
    rcases c_bel a2 (M 70 (2 * k + s)) with ⟨v, -⟩ | ⟨v, v1, v2⟩ <;> simp [f_Model_fix, w3, w4, w15, g, q, t, u', i_b1, f_fail, gd2, en2, wc, v]
  rcases c_add a5 with ⟨z, z'⟩ | ⟨z, zz, z'⟩
  · refine hfail ?_ ?_
    · rcases z with z | z
      · simp [f_Law_fix, f_Mill_fix, g, q, u, t, i_b1, z]
      · by_cases zz : a5 < -20000 <;> simp [f_Law_fix, f_Mill_fix, g, q, u, t, i_b1, z, zz]
    · rcases c_bel a2 (M 70 (2 * k + s)) with ⟨v, -⟩ | ⟨v, v1, v2⟩ <;> simp [f_Model_fix, w3, w4, w15, g, q, t, u', i_b1, f_fail, gd2, en2, wc, v, z']
  rcases c_bel a2 (M 70 (2 * k + s)) with ⟨v, -⟩ | ⟨v, v1, v2⟩
  · exact hfail (by simp [f_Law_fix, f_Mill_fix, g, q, u, t, i_b1, z, zz, gd1, i_nm, o_n k hk, c_sof hs, hcnt, v]) (by simp [f_Model_fix, w3, w4, w15, g, q, t, u', i_b1, f_fail, gd2, en2, wc, v, z'])
  by_cases hf : M 76 k = 16
  · exact ok_fail h o 2 0 (by decide) (by simp [f_Law_fix, f_Mill_fix, g, q, u, t, i_b1, z, zz, gd1, i_nm, o_n k hk, c_sof hs, hcnt, v, hb, hf]) (by simp [f_Model_fix, w3, w4, w15, g, q, t, u', i_b1, f_fail, gd2, gd1, en2, wc, v, z', j_Model_fix_82, j_Model_fix_110, o_n k hk, hf, i_nm, i_up])
  have hlt : (M 76 k).toInt < 16 := by
    have : (M 76 k).toInt ≠ 16 := fun h => hf (Int32.toInt_inj.mp h)
    omega
  have hv : 0 ≤ a2.toInt ∧ a2.toInt < (M 70 (2 * k + s)).toInt := by
    rw [Int32.le_iff_toInt_le] at v1
    rw [Int32.lt_iff_toInt_lt] at v2
    exact ⟨v1, v2⟩
  have hq : 0 ≤ a3.toInt ∧ a3.toInt < 5 := by
    rw [Int32.le_iff_toInt_le] at q1
    rw [Int32.lt_iff_toInt_lt] at q2
    exact ⟨q1, q2⟩
  have ht : 0 ≤ a4.toInt ∧ a4.toInt < 16 := by
    rw [Int32.le_iff_toInt_le] at t1
    rw [Int32.lt_iff_toInt_lt] at t2
    exact ⟨t1, t2⟩
  have hz : -20000 ≤ a5.toInt ∧ a5.toInt ≤ 20000 := by
    rw [Int32.lt_iff_toInt_lt] at z
    rw [Int32.le_iff_toInt_le] at zz
    exact ⟨Int.not_lt.mp z, zz⟩
  have e8 : ((16 : Int32) * Int32.ofNat k + M 76 k).toInt = 16 * k + (M 76 k).toInt := by
    rw [t_add, o_16 k hk] <;> rw [o_16 k hk] <;> omega
  have en : ((16 : Int32) * Int32.ofNat k + M 76 k).toNatClampNeg = 16 * k + (M 76 k).toInt.toNat := by rw [t_n, e8]; omega
  have gd3 : ∀ {α : Type} (x : Option α), sm_gd ((16 : Int32) * Int32.ofNat k + M 76 k) 64 x = x := fun x => i_gd (by rw [e8]; omega) (by rw [e8]; omega)
  have gd4 : ∀ {α : Type} (x : Option α), sm_gd (M 76 k) 16 x = x := fun x => i_gd (by omega) (by omega)
  have hs2 : (Int32.ofNat s = 0 ∧ s = 0) ∨ (Int32.ofNat s = 1 ∧ s = 1) := by
    have h : s = 0 ∨ s = 1 := by omega
    rcases h with rfl | rfl
    · exact Or.inl ⟨rfl, rfl⟩
    · exact Or.inr ⟨rfl, rfl⟩
  generalize hS : Int32.ofNat s = S at *
  have n0 : ¬ (76 = 3 + 14 * k) := by omega
  have n5 : ¬ (76 = 3 + 14 * k + 9) := by omega
  have n6 : ¬ (76 = 3 + 14 * k + 10) := by omega
  have n7 : ¬ (76 = 3 + 14 * k + 11) := by omega
  have n8 : ¬ (76 = 3 + 14 * k + 12) := by omega
  have n9 : ¬ (76 = 3 + 14 * k + 13) := by omega
  have r0 : ¬ (70 = 3 + 14 * k) := by omega
  have r5 : ¬ (70 = 3 + 14 * k + 9) := by omega
  have r6 : ¬ (70 = 3 + 14 * k + 10) := by omega
  have r7 : ¬ (70 = 3 + 14 * k + 11) := by omega
  have r8 : ¬ (70 = 3 + 14 * k + 12) := by omega
  have r9 : ¬ (70 = 3 + 14 * k + 13) := by omega
  have m5 : ¬ (3 + 14 * k = 3 + 14 * k + 9) := by omega
  have m6 : ¬ (3 + 14 * k = 3 + 14 * k + 10) := by omega
  have m7 : ¬ (3 + 14 * k = 3 + 14 * k + 11) := by omega
  have m8 : ¬ (3 + 14 * k = 3 + 14 * k + 12) := by omega
  have m9 : ¬ (3 + 14 * k = 3 + 14 * k + 13) := by omega
  generalize hc : M 76 k = c at *
  refine ⟨0, sm_up (sm_up (sm_up (sm_up (sm_up (sm_up M (3 + 14 * k + 9) c.toNatClampNeg S) (3 + 14 * k + 10) c.toNatClampNeg a2) (3 + 14 * k + 11) c.toNatClampNeg a3) (3 + 14 * k + 12) c.toNatClampNeg a4) (3 + 14 * k + 13) c.toNatClampNeg a5) (3 + 14 * k) 12 (c + 1), vp_updL o 0 (Int32.toInt64 (c + 1)), c + 1, sm_up (sm_up (sm_up (sm_up (sm_up (sm_up (sm_up (sm_up (sm_up (sm_up (sm_up (sm_up (sm_up M (3 + 14 * k + 9) c.toNatClampNeg S) (3 + 14 * k + 10) c.toNatClampNeg a2) (3 + 14 * k + 11) c.toNatClampNeg a3) (3 + 14 * k + 12) c.toNatClampNeg a4) (3 + 14 * k + 13) c.toNatClampNeg a5) (3 + 14 * k) 12 (c + 1)) 68 0 0) 77 (16 * k + c.toInt.toNat) S) 78 (16 * k + c.toInt.toNat) a2) 79 (16 * k + c.toInt.toNat) a3) 80 (16 * k + c.toInt.toNat) a4) 81 (16 * k + c.toInt.toNat) a5) 76 k (c + 1), ?_, ?_, ?_, ?_, ?_⟩
  · simp only [f_Law_fix, f_Mill_fix, g, q, u, t, v, z, zz, i_b1, gd1, i_nm, o_n k hk, hcnt, f_Part_addFix, hb, gd4, i_b2, i_up, m5, m6, m7, m8, m9, false_and, if_false, and_self, if_true]
    simp [hf, gd4, i_b1, i_b2, ← hS, c_sof hs, hcnt, v]
  · simp only [f_Model_fix, w3, w4, w15, g, q, t, z', u', i_b1, gd2, en2, i_up, r0, r5, r6, r7, r8, r9, false_and, if_false, wc, v, j_Model_fix_82, j_Model_fix_110, gd1, o_n k hk, i_nm, n0, n5, n6, n7, n8, n9, hc]
    simp [hf, gd3, gd1, i_b1, en, hc, n0, n5, n6, n7, n8, n9]
  · simp only [i_up]; simp
  · intro _; simp [vp_updL]
  · refine ⟨fun o' ho' => ?_, h.V.congr (by (intro k' j' w; (first | unfold ownP at w | unfold ownV at w | unfold ownI at w | unfold ownM at w | unfold ownC at w | unfold ownD at w | unfold ownN at w | unfold ownF at w | unfold ownX at w); simp only [i_up]; repeat rw [if_neg (by omega)])), h.I.congr (by (intro k' j' w; (first | unfold ownP at w | unfold ownV at w | unfold ownI at w | unfold ownM at w | unfold ownC at w | unfold ownD at w | unfold ownN at w | unfold ownF at w | unfold ownX at w); simp only [i_up]; repeat rw [if_neg (by omega)])), h.K.congr (by (intro k' j' w; (first | unfold ownP at w | unfold ownV at w | unfold ownI at w | unfold ownM at w | unfold ownC at w | unfold ownD at w | unfold ownN at w | unfold ownF at w | unfold ownX at w); simp only [i_up]; repeat rw [if_neg (by omega)]))⟩
    by_cases hkk : o' = k
    · subst hkk
      have := t_inc (x := c) (by omega)
      refine ⟨hP.C.congr (by (intro k' j' w; (first | unfold ownP at w | unfold ownV at w | unfold ownI at w | unfold ownM at w | unfold ownC at w | unfold ownD at w | unfold ownN at w | unfold ownF at w | unfold ownX at w); simp only [i_up]; repeat rw [if_neg (by omega)])), hP.D.congr (by (intro k' j' w; (first | unfold ownP at w | unfold ownV at w | unfold ownI at w | unfold ownM at w | unfold ownC at w | unfold ownD at w | unfold ownN at w | unfold ownF at w | unfold ownX at w); simp only [i_up]; repeat rw [if_neg (by omega)])), hP.N.congr (by (intro k' j' w; (first | unfold ownP at w | unfold ownV at w | unfold ownI at w | unfold ownM at w | unfold ownC at w | unfold ownD at w | unfold ownN at w | unfold ownF at w | unfold ownX at w); simp only [i_up]; repeat rw [if_neg (by omega)])), ?_, ?_⟩
      · obtain ⟨x1, x2, x3, x4, x5, x6, x7, x8, x9, x10, x11, x12⟩ := hP.F
        rw [t_n]
        have hS2 : S = 0 ∨ S = 1 := by rcases hs2 with ⟨e, -⟩ | ⟨e, -⟩ <;> simp [e]
        refine ⟨?_, ?_, ?_, ?_, ?_, ?_, ?_, ?_, ?_, ?_, ?_, ?_⟩ <;> (intros; simp only [i_up]; (repeat (first | rw [if_neg (by omega)] | rw [if_pos (by omega)])); first | done | (simp; done) | grind (splits := 30))
      · refine hP.X.step (c := c) (S := S) (p := a2) (by omega) (by omega) hc ?_ ?_ ?_ ?_ ?_ ?_
        · (simp only [i_up] at *; (repeat (first | rw [if_neg (by omega)] | rw [if_pos (by omega)])); first | done | (simp; done) | grind (splits := 30))
        · intro j hj
          rw [t_n]
          simp only [i_up]
          by_cases hjc : j = c.toInt.toNat
          · subst hjc
            rw [if_pos rfl]
            (repeat rw [if_neg (by omega)])
            simp
          · rw [if_neg hjc]
            (repeat (first | rw [if_neg (by omega)] | rw [if_pos (by omega)]))
        · intro j hj
          rw [t_n]
          simp only [i_up]
          by_cases hjc : j = c.toInt.toNat
          · subst hjc
            rw [if_pos rfl]
            (repeat rw [if_neg (by omega)])
            simp
          · rw [if_neg hjc]
            (repeat (first | rw [if_neg (by omega)] | rw [if_pos (by omega)]))
        · (simp only [i_up] at *; (repeat (first | rw [if_neg (by omega)] | rw [if_pos (by omega)])); first | done | (simp; done) | grind (splits := 30))
        · (simp only [i_up] at *; (repeat (first | rw [if_neg (by omega)] | rw [if_pos (by omega)])); first | done | (simp; done) | grind (splits := 30))
        · rcases hs2 with ⟨e, rfl⟩ | ⟨e, rfl⟩
          · exact Or.inl ⟨e, hv.2⟩
          · exact Or.inr ⟨e, hv.2⟩
    · exact (h.P o' ho').congr (by (intro k' j' w; (first | unfold ownP at w | unfold ownV at w | unfold ownI at w | unfold ownM at w | unfold ownC at w | unfold ownD at w | unfold ownN at w | unfold ownF at w | unfold ownX at w); simp only [i_up]; repeat rw [if_neg (by omega)]))
