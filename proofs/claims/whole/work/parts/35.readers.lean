def rdOK (M : sm_M) (x : Option Int32) (y : Option (Int32 × sm_M)) : Prop := ∃ b, x = some b ∧ y = some (b, sm_up M 68 0 0)
theorem t_le {x y : Int32} : (x ≤ y) = (x.toInt ≤ y.toInt) := propext Int32.le_iff_toInt_le
theorem t_lt {x y : Int32} : (x < y) = (x.toInt < y.toInt) := propext Int32.lt_iff_toInt_lt
theorem t_0 : (0 : Int32).toInt = 0 := rfl
theorem z_thr (M : sm_M) (x : Int32) {a b : Nat} (h : ¬ (a = 68 ∧ b = 0)) : sm_up M 68 0 x a b = M a b := by rw [i_up, if_neg h]
theorem rd_image {n : Nat} {M : sm_M} (h : Inv n M) (a0 : Int32) : rdOK M (f_Mill_image M a0) (f_Model_image M a0) := by
  have hs := h.I.sz
  have hr := h.I.szr
  unfold f_Mill_image f_Model_image rdOK
  simp only [i_nm, z_thr M 0 (a := 68) (b := 18) (by omega)]
  rcases c_bel a0 (M 62 1) with ⟨g, gn⟩ | ⟨g, g1, g2⟩
  · refine ⟨-1, by simp [g, i_b1], ?_⟩
    rw [hs] at gn
    by_cases q : a0 < 0
    · rw [if_pos q]
    · rw [if_neg q, if_neg (by grind)]
  · rw [hs] at g2
    have v1 := g1
    have v2 := g2
    rw [t_le, t_0] at v1
    rw [t_lt] at v2
    have e : sm_gd a0 1000 (some (M 63 a0.toNatClampNeg)) = some (M 63 a0.toNatClampNeg) := i_gd (by omega) (by omega)
    refine ⟨M 63 a0.toNatClampNeg, by simp [g, i_b1, e], ?_⟩
    rw [if_neg (by grind), if_pos g2, i_gd (by omega) (by omega), z_thr M 0 (by omega), h.I.im _ (by rw [t_n]; omega)]
theorem rd_value {n : Nat} {M : sm_M} (h : Inv n M) (a0 : Int32) : rdOK M (f_Mill_value M a0) (f_Model_value M a0) := by
  unfold f_Mill_value f_Model_value rdOK
  simp only [i_nm, w15]
  rcases c_bel a0 16 with ⟨g, gn⟩ | ⟨g, g1, g2⟩
  · exact ⟨-1, by simp [g, i_b1], by simp [g, i_b1]⟩
  · have v1 := g1
    have v2 := g2
    rw [t_le, t_0] at v1
    rw [t_lt] at v2
    have v2 : a0.toInt < 16 := v2
    have gd : ∀ {α : Type} (x : Option α), sm_gd a0 16 x = x := fun x => i_gd (by omega) (by omega)
    have hv := h.V.va a0.toNatClampNeg (by rw [t_n]; omega)
    refine ⟨M 61 a0.toNatClampNeg, by simp [g, i_b1, gd], ?_⟩
    simp only [g, i_b1, gd, z_thr M 0 (a := 84) (b := a0.toNatClampNeg) (by omega), z_thr M 0 (a := 85) (b := a0.toNatClampNeg) (by omega)]
    rw [hv]
    by_cases q : M 84 a0.toNatClampNeg = 0 <;> simp [q]
theorem rd_register {n : Nat} {M : sm_M} (h : Inv n M) (a0 : Int32) : rdOK M (f_Mill_register M a0) (f_Model_register M a0) := by
  unfold f_Mill_register f_Model_register rdOK
  simp only [i_nm, w31]
  rcases c_bel a0 32 with ⟨g, gn⟩ | ⟨g, g1, g2⟩
  · exact ⟨0, by simp [g, i_b1], by simp [g, i_b1]⟩
  · have v1 := g1
    have v2 := g2
    rw [t_le, t_0] at v1
    rw [t_lt] at v2
    have v2 : a0.toInt < 32 := v2
    have gd : ∀ {α : Type} (x : Option α), sm_gd a0 32 x = x := fun x => i_gd (by omega) (by omega)
    have hv := h.K.rg a0.toNatClampNeg (by rw [t_n]; omega)
    refine ⟨M 66 a0.toNatClampNeg, by simp [g, i_b1, gd], ?_⟩
    simp [g, i_b1, gd, z_thr M 0 (a := 88) (b := a0.toNatClampNeg) (by omega), hv]
theorem rd_about {n : Nat} {M : sm_M} (h : Inv n M) (a0 : Int32) : rdOK M (f_Mill_about M a0) (f_Model_about M a0) := by
  have e1 := h.I.sz
  have e2 := h.K.m7
  have e3 := h.K.m8
  have e4 := h.K.m9
  have e5 := h.K.m10
  unfold f_Mill_about f_Model_about rdOK
  simp only [i_nm, z_thr M 0 (a := 68) (b := 18) (by omega), z_thr M 0 (a := 68) (b := 25) (by omega), z_thr M 0 (a := 68) (b := 26) (by omega), z_thr M 0 (a := 68) (b := 27) (by omega), z_thr M 0 (a := 68) (b := 29) (by omega), e1, e2, e3, e4, e5]
  by_cases q0 : a0 = 0
  · exact ⟨_, by rw [if_pos q0], by rw [if_pos q0]⟩
  by_cases q1 : a0 = 1
  · exact ⟨_, by rw [if_neg q0, if_pos q1], by rw [if_neg q0, if_pos q1]⟩
  by_cases q2 : a0 = 2
  · exact ⟨_, by rw [if_neg q0, if_neg q1, if_pos q2], by rw [if_neg q0, if_neg q1, if_pos q2]⟩
  by_cases q3 : a0 = 3
  · exact ⟨_, by rw [if_neg q0, if_neg q1, if_neg q2, if_pos q3], by rw [if_neg q0, if_neg q1, if_neg q2, if_pos q3]⟩
  by_cases q4 : a0 = 4
  · exact ⟨_, by rw [if_neg q0, if_neg q1, if_neg q2, if_neg q3, if_pos q4], by rw [if_neg q0, if_neg q1, if_neg q2, if_neg q3, if_pos q4]⟩
  · exact ⟨_, by rw [if_neg q0, if_neg q1, if_neg q2, if_neg q3, if_neg q4], by rw [if_neg q0, if_neg q1, if_neg q2, if_neg q3, if_neg q4]⟩
theorem rd_object {n : Nat} {M : sm_M} (h : Inv n M) (a0 a1 : Int32) : rdOK M (f_Mill_object M a0 a1) (f_Model_object M a0 a1) := by
  unfold f_Mill_object f_Model_object rdOK
  simp only [i_nm, w3]
  rcases c_bel a0 4 with ⟨g, gn⟩ | ⟨g, g1, g2⟩
  · exact ⟨-1, by simp [g, i_b1], by simp [g, i_b1]⟩
  obtain ⟨k, hk, rfl⟩ := c_o4 g1 g2
  have hP := h.P k hk
  have gd1 : ∀ {α : Type} (x : Option α), sm_gd (Int32.ofNat k) 4 x = x := fun x => i_gd (by rw [o_t k hk]; omega) (by rw [o_t k hk]; omega)
  simp only [g, i_b1, gd1, o_n k hk, j_Model_object_25]
  by_cases q0 : a1 = 0
  · subst q0
    have e : ((2 : Int32) * Int32.ofNat k + 0).toInt = 2 * k := by rw [Int32.add_zero]; exact o_2 k hk
    refine ⟨M (3 + 14 * k + 1) 1, by simp, ?_⟩
    simp only [if_true, i_1, if_false]
    rw [i_gd (by rw [e]; omega) (by rw [e]; omega), z_thr M 0 (by omega), t_n, e, hP.C.cc]
    simp only [Option.some.injEq, Prod.mk.injEq, and_true]
    congr 1
  by_cases q1 : a1 = 1
  · subst q1
    have e : ((2 : Int32) * Int32.ofNat k + 1).toInt = 2 * k + 1 := o_21 k hk
    refine ⟨M (3 + 14 * k + 3) 1, by simp, ?_⟩
    simp only [if_true, i_1, if_false]
    rw [i_gd (by rw [e]; omega) (by rw [e]; omega), z_thr M 0 (by omega), t_n, e, hP.D.dc]
    simp only [Option.some.injEq, Prod.mk.injEq, and_true]
    congr 1
  by_cases q2 : a1 = 2
  · subst q2
    exact ⟨M (3 + 14 * k) 6, by simp, by simp [z_thr M 0 (a := 71) (b := k) (by omega), hP.N.nd]⟩
  by_cases q3 : a1 = 3
  · subst q3
    exact ⟨M (3 + 14 * k) 12, by simp, by simp [z_thr M 0 (a := 76) (b := k) (by omega), hP.F.nf]⟩
  · exact ⟨-1, by simp [q0, q1, q2, q3], by simp [q0, q1, q2, q3]⟩
