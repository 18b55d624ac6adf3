theorem c_sec (a : Int32) : (f_Mill_isSection a = some 0 ∧ f_Model_within a 0 1 = some 0) ∨ ∃ s : Nat, s < 2 ∧ a = Int32.ofNat s ∧ f_Mill_isSection a = some 1 ∧ f_Model_within a 0 1 = some 1 := by
  by_cases h0 : a = 0
  · subst h0; exact Or.inr ⟨0, by omega, rfl, rfl, rfl⟩
  by_cases h1 : a = 1
  · subst h1; exact Or.inr ⟨1, by omega, rfl, rfl, rfl⟩
  · refine Or.inl ⟨by simp [f_Mill_isSection, h0, h1], ?_⟩
    unfold f_Model_within
    grind
theorem c_sof {M : sm_M} {P s : Nat} (h : s < 2) : f_Part_sectionOf M P (Int32.ofNat s) = some (P + 1 + 2 * s) := by
  have h : s = 0 ∨ s = 1 := by omega
  rcases h with rfl | rfl <;> rfl
theorem o_ks : ∀ k : Nat, k < 4 → ∀ s : Nat, s < 2 → ((2 : Int32) * (Int32.ofNat k &&& 3) + (Int32.ofNat s &&& 1)).toInt = 2 * k + s := by decide
theorem c_cnt {M : sm_M} {k s : Nat} (hP : PInv M k) (hs : s < 2) : M (3 + 14 * k + 1 + 2 * s) 1 = M 70 (2 * k + s) ∧ 0 ≤ (M 70 (2 * k + s)).toInt ∧ (M 70 (2 * k + s)).toInt ≤ 24 := by
  have h : s = 0 ∨ s = 1 := by omega
  rcases h with rfl | rfl
  · exact ⟨hP.C.cc, hP.C.cr⟩
  · exact ⟨hP.D.dc, by have := hP.D.dr; omega⟩
theorem d_fail (M : sm_M) (a0 a1 a2 a3 a4 : Int32) : j_Model_define_55 M a0 a1 a2 a3 a4 = some (0, sm_up M 68 0 1) := by
  simp [j_Model_define_55, j_Model_define_56, j_Model_define_84, i_nm, i_up]
theorem op_define {n : Nat} {M : sm_M} (h : Inv n M) (o : sm_O) (a0 a1 a2 a3 a4 : Int32) (ha : a4 = 0 ∨ a4 = 1) : opOK n (f_Law_define M o a0 a1 a2 a3 a4) (fun M1 => f_Model_define M1 a0 a1 a2 a3 a4) := by
  have hnar : vp_nar .boolean a4 = a4 := by rcases ha with rfl | rfl <;> rfl
  rcases c_bel a0 4 with ⟨g, -⟩ | ⟨g, g1, g2⟩
  · exact ok_fail h o 1 0 (by decide) (by simp [f_Law_define, f_Mill_define, g, i_b1]) (by simp [f_Model_define, w3, g, i_b1, d_fail])
  rcases c_bel a1 16 with ⟨q, -⟩ | ⟨q, q1, q2⟩
  · exact ok_fail h o 1 0 (by decide) (by simp [f_Law_define, f_Mill_define, g, q, i_b1]) (by simp [f_Model_define, w3, w15, g, q, i_b1, d_fail])
  rcases c_sec a2 with ⟨u, u'⟩ | ⟨s, hs, rfl, u, u'⟩
  · exact ok_fail h o 1 0 (by decide) (by simp [f_Law_define, f_Mill_define, g, q, u, i_b1]) (by simp [f_Model_define, w3, w15, g, q, u', i_b1, d_fail])
  obtain ⟨k, hk, rfl⟩ := c_o4 g1 g2
  have hP := h.P k hk
  obtain ⟨hcnt, c0, c1⟩ := c_cnt hP hs
  have gd1 : ∀ {α : Type} (x : Option α), sm_gd (Int32.ofNat k) 4 x = x := fun x => i_gd (by rw [o_t k hk]; omega) (by rw [o_t k hk]; omega)
  have gd2 : ∀ {α : Type} (x : Option α), sm_gd ((2 : Int32) * (Int32.ofNat k &&& 3) + (Int32.ofNat s &&& 1)) 8 x = x := fun x => i_gd (by rw [o_ks k hk s hs]; omega) (by rw [o_ks k hk s hs]; omega)
  have en2 : ((2 : Int32) * (Int32.ofNat k &&& 3) + (Int32.ofNat s &&& 1)).toNatClampNeg = 2 * k + s := by rw [t_n, o_ks k hk s hs]; omega
  have wc : f_Model_within a3 0 (M 70 (2 * k + s)) = f_Mill_isBelow a3 (M 70 (2 * k + s) + 1) := u_within _ _ (by rw [Int32.lt_iff_toInt_lt]; exact Int.lt_of_le_of_lt c1 (by decide))
  have hb : M (3 + 14 * k) 6 = M 71 k := hP.N.nd
  have hbr := hP.N.ndr
  rcases c_bel a3 (M 70 (2 * k + s) + 1) with ⟨v, -⟩ | ⟨v, v1, v2⟩
  · exact ok_fail h o 1 0 (by decide) (by simp [f_Law_define, f_Mill_define, g, q, u, i_b1, gd1, i_nm, o_n k hk, c_sof hs, hcnt, v]) (by simp [f_Model_define, w3, w15, g, q, u', i_b1, d_fail, gd2, en2, wc, v])
  by_cases hf : M 71 k = 8
  · exact ok_fail h o 2 0 (by decide) (by simp [f_Law_define, f_Mill_define, g, q, u, i_b1, gd1, i_nm, o_n k hk, c_sof hs, hcnt, v, hb, hf]) (by simp [f_Model_define, w3, w15, g, q, u', i_b1, d_fail, gd2, gd1, en2, wc, v, j_Model_define_56, j_Model_define_84, o_n k hk, hf, i_nm, i_up])
  have hlt : (M 71 k).toInt < 8 := by
    have : (M 71 k).toInt ≠ 8 := fun h => hf (Int32.toInt_inj.mp h)
    omega
  have hv : 0 ≤ a3.toInt ∧ a3.toInt ≤ 24 := by
    rw [Int32.le_iff_toInt_le] at v1
    rw [Int32.lt_iff_toInt_lt, t_inc (by omega)] at v2
    have : (0 : Int32).toInt = 0 := rfl
    omega
  have hq : 0 ≤ a1.toInt ∧ a1.toInt < 16 := by
    rw [Int32.le_iff_toInt_le] at q1
    rw [Int32.lt_iff_toInt_lt] at q2
    exact ⟨q1, q2⟩
  have e8 : ((8 : Int32) * Int32.ofNat k + M 71 k).toInt = 8 * k + (M 71 k).toInt := by
    rw [t_add, o_8 k hk] <;> rw [o_8 k hk] <;> omega
  have en : ((8 : Int32) * Int32.ofNat k + M 71 k).toNatClampNeg = 8 * k + (M 71 k).toInt.toNat := by rw [t_n, e8]; omega
  have gd3 : ∀ {α : Type} (x : Option α), sm_gd ((8 : Int32) * Int32.ofNat k + M 71 k) 32 x = x := fun x => i_gd (by rw [e8]; omega) (by rw [e8]; omega)
  have gd4 : ∀ {α : Type} (x : Option α), sm_gd (M 71 k) 8 x = x := fun x => i_gd (by omega) (by omega)
  have hs2 : Int32.ofNat s = 0 ∨ Int32.ofNat s = 1 := by
    have h : s = 0 ∨ s = 1 := by omega
    rcases h with rfl | rfl
    · exact Or.inl rfl
    · exact Or.inr rfl
  generalize hS : Int32.ofNat s = S at *
  have n0 : ¬ (71 = 3 + 14 * k) := by omega
  have n5 : ¬ (71 = 3 + 14 * k + 5) := by omega
  have n6 : ¬ (71 = 3 + 14 * k + 6) := by omega
  have n7 : ¬ (71 = 3 + 14 * k + 7) := by omega
  have n8 : ¬ (71 = 3 + 14 * k + 8) := by omega
  have r0 : ¬ (70 = 3 + 14 * k) := by omega
  have r5 : ¬ (70 = 3 + 14 * k + 5) := by omega
  have r6 : ¬ (70 = 3 + 14 * k + 6) := by omega
  have r7 : ¬ (70 = 3 + 14 * k + 7) := by omega
  have r8 : ¬ (70 = 3 + 14 * k + 8) := by omega
  have m5 : ¬ (3 + 14 * k = 3 + 14 * k + 5) := by omega
  have m6 : ¬ (3 + 14 * k = 3 + 14 * k + 6) := by omega
  have m7 : ¬ (3 + 14 * k = 3 + 14 * k + 7) := by omega
  have m8 : ¬ (3 + 14 * k = 3 + 14 * k + 8) := by omega
  generalize hc : M 71 k = c at *
  refine ⟨0, sm_up (sm_up (sm_up (sm_up (sm_up M (3 + 14 * k + 5) c.toNatClampNeg a1) (3 + 14 * k + 6) c.toNatClampNeg S) (3 + 14 * k + 7) c.toNatClampNeg a3) (3 + 14 * k + 8) c.toNatClampNeg a4) (3 + 14 * k) 6 (c + 1), vp_updL o 0 (Int32.toInt64 (c + 1)), c + 1, sm_up (sm_up (sm_up (sm_up (sm_up (sm_up (sm_up (sm_up (sm_up (sm_up (sm_up M (3 + 14 * k + 5) c.toNatClampNeg a1) (3 + 14 * k + 6) c.toNatClampNeg S) (3 + 14 * k + 7) c.toNatClampNeg a3) (3 + 14 * k + 8) c.toNatClampNeg a4) (3 + 14 * k) 6 (c + 1)) 68 0 0) 72 (8 * k + c.toInt.toNat) a1) 73 (8 * k + c.toInt.toNat) S) 74 (8 * k + c.toInt.toNat) a3) 75 (8 * k + c.toInt.toNat) a4) 71 k (c + 1), ?_, ?_, ?_, ?_, ?_⟩
  · simp only [f_Law_define, f_Mill_define, g, q, u, v, i_b1, gd1, i_nm, o_n k hk, hcnt, f_Part_addDefinition, hb, gd4, i_b2, i_up, m5, m6, m7, m8, false_and, if_false, and_self, if_true, hnar]
    simp [hf, gd4, i_b1, i_b2, ← hS, c_sof hs, hcnt, v]
  · simp only [f_Model_define, w3, w15, g, q, u', i_b1, gd2, en2, i_up, r0, r5, r6, r7, r8, false_and, if_false, wc, v, j_Model_define_56, j_Model_define_84, gd1, o_n k hk, i_nm, n0, n5, n6, n7, n8, hc, hnar]
    simp [hf, gd3, gd1, i_b1, en, hc, n0, n5, n6, n7, n8]
  · simp only [i_up]; simp
  · intro _; simp [vp_updL]
  · refine ⟨fun o' ho' => ?_, h.V.congr (by (intro k' j' w; (first | unfold ownP at w | unfold ownV at w | unfold ownI at w | unfold ownM at w | unfold ownC at w | unfold ownD at w | unfold ownN at w | unfold ownF at w | unfold ownX at w); simp only [i_up]; repeat rw [if_neg (by omega)])), h.I.congr (by (intro k' j' w; (first | unfold ownP at w | unfold ownV at w | unfold ownI at w | unfold ownM at w | unfold ownC at w | unfold ownD at w | unfold ownN at w | unfold ownF at w | unfold ownX at w); simp only [i_up]; repeat rw [if_neg (by omega)])), h.K.congr (by (intro k' j' w; (first | unfold ownP at w | unfold ownV at w | unfold ownI at w | unfold ownM at w | unfold ownC at w | unfold ownD at w | unfold ownN at w | unfold ownF at w | unfold ownX at w); simp only [i_up]; repeat rw [if_neg (by omega)]))⟩
    by_cases hkk : o' = k
    · subst hkk
      refine ⟨hP.C.congr (by (intro k' j' w; (first | unfold ownP at w | unfold ownV at w | unfold ownI at w | unfold ownM at w | unfold ownC at w | unfold ownD at w | unfold ownN at w | unfold ownF at w | unfold ownX at w); simp only [i_up]; repeat rw [if_neg (by omega)])), hP.D.congr (by (intro k' j' w; (first | unfold ownP at w | unfold ownV at w | unfold ownI at w | unfold ownM at w | unfold ownC at w | unfold ownD at w | unfold ownN at w | unfold ownF at w | unfold ownX at w); simp only [i_up]; repeat rw [if_neg (by omega)])), ?_, hP.F.congr (by (intro k' j' w; (first | unfold ownP at w | unfold ownV at w | unfold ownI at w | unfold ownM at w | unfold ownC at w | unfold ownD at w | unfold ownN at w | unfold ownF at w | unfold ownX at w); simp only [i_up]; repeat rw [if_neg (by omega)])), hP.X.congr (by (intro k' j' w; (first | unfold ownP at w | unfold ownV at w | unfold ownI at w | unfold ownM at w | unfold ownC at w | unfold ownD at w | unfold ownN at w | unfold ownF at w | unfold ownX at w); simp only [i_up]; repeat rw [if_neg (by omega)]))⟩
      obtain ⟨x1, x2, x3, x4, x5, x6, x7, x8, x9, x10⟩ := hP.N
      rw [t_n]
      have := t_inc (x := c) (by omega)
      refine ⟨?_, ?_, ?_, ?_, ?_, ?_, ?_, ?_, ?_, ?_⟩ <;> (intros; simp only [i_up]; (repeat (first | rw [if_neg (by omega)] | rw [if_pos (by omega)])); first | done | (simp; done) | grind (splits := 30))
    · exact (h.P o' ho').congr (by (intro k' j' w; (first | unfold ownP at w | unfold ownV at w | unfold ownI at w | unfold ownM at w | unfold ownC at w | unfold ownD at w | unfold ownN at w | unfold ownF at w | unfold ownX at w); simp only [i_up]; repeat rw [if_neg (by omega)]))
