theorem op_word {n : Nat} {M : sm_M} (h : Inv n M) (o : sm_O) (a0 a1 : Int32) : opOK n (f_Law_word M o a0 a1) (fun M1 => f_Model_word M1 a0 a1) := by
  rcases c_bel a0 4 with ⟨g, -⟩ | ⟨g, g1, g2⟩
  · exact ok_fail h o 1 0 (by decide) (by simp [f_Law_word, f_Mill_word, g, i_b1]) (by simp [f_Model_word, w3, g, i_b1, j_Model_word_34, i_nm, i_up])
  obtain ⟨k, hk, rfl⟩ := c_o4 g1 g2
  have hP := h.P k hk
  have hcc := hP.D.dc
  have hcr := hP.D.dr
  have gd1 : ∀ {α : Type} (x : Option α), sm_gd (Int32.ofNat k) 4 x = x := fun x => i_gd (by rw [o_t k hk]; omega) (by rw [o_t k hk]; omega)
  have gd2 : ∀ {α : Type} (x : Option α), sm_gd ((2 : Int32) * Int32.ofNat k + 1) 8 x = x := fun x => i_gd (by rw [o_21 k hk]; omega) (by rw [o_21 k hk]; omega)
  by_cases hf : M 70 (2 * k + 1) = 12
  · refine ok_fail h o 2 0 (by decide) ?_ ?_
    · simp [f_Law_word, f_Mill_word, g, i_b1, i_bo1, gd1, i_nm, o_n k hk, f_Section_isFull, l_d k hk, hcc, hf]
    · simp [f_Model_word, w3, g, i_b1, j_Model_word_34, gd2, o_21n k hk, hf, i_nm, i_up]
  have hlt : (M 70 (2 * k + 1)).toInt < 12 := by
    have : (M 70 (2 * k + 1)).toInt ≠ 12 := fun h => hf (Int32.toInt_inj.mp h)
    omega
  have e48 : ((48 : Int32) * Int32.ofNat k + 24 + M 70 (2 * k + 1)).toInt = 48 * k + 24 + (M 70 (2 * k + 1)).toInt := by
    rw [t_add, o_4824 k hk] <;> rw [o_4824 k hk] <;> omega
  have en : ((48 : Int32) * Int32.ofNat k + 24 + M 70 (2 * k + 1)).toNatClampNeg = 48 * k + 24 + (M 70 (2 * k + 1)).toInt.toNat := by rw [t_n, e48]; omega
  have gd3 : ∀ {α : Type} (x : Option α), sm_gd ((48 : Int32) * Int32.ofNat k + 24 + M 70 (2 * k + 1)) 192 x = x := fun x => i_gd (by rw [e48]; omega) (by rw [e48]; omega)
  have gd4 : ∀ {α : Type} (x : Option α), sm_gd (M 70 (2 * k + 1)) 12 x = x := fun x => i_gd (by omega) (by omega)
  have n1 : ¬ (70 = 3 + 14 * k + 3 + 1) := by omega
  have n2 : ¬ (70 = 3 + 14 * k + 3) := by omega
  have n3 : ¬ (3 + 14 * k + 3 = 3 + 14 * k + 3 + 1) := by omega
  have hx : M 70 (2 * k + 1) + 1 - 1 = M 70 (2 * k + 1) := by grind
  generalize hc : M 70 (2 * k + 1) = c at *
  refine ⟨0, sm_up (sm_up M (3 + 14 * k + 3 + 1) c.toNatClampNeg a1) (3 + 14 * k + 3) 1 (c + 1), vp_updL o 0 (Int32.toInt64 c), c, sm_up (sm_up (sm_up (sm_up (sm_up M (3 + 14 * k + 3 + 1) c.toNatClampNeg a1) (3 + 14 * k + 3) 1 (c + 1)) 68 0 0) 69 (48 * k + 24 + c.toInt.toNat) a1) 70 (2 * k + 1) (c + 1), ?_, ?_, ?_, ?_, ?_⟩
  · simp only [f_Law_word, f_Mill_word, g, i_b1, i_bo1, gd1, i_nm, o_n k hk, f_Section_isFull, l_d k hk, hcc, f_Section_append, gd4, i_b2, i_up, n3, false_and, if_false, and_self, if_true, hx]
    simp [hf, gd4, i_b1, i_b2, hx]
  · simp only [f_Model_word, w3, g, i_b1, j_Model_word_34, gd2, o_21n k hk, i_nm, i_up, n1, n2, hc]
    simp [hf, gd3, gd2, i_b1, en, hx, n1, n2, hc]
  · simp only [i_up]; simp
  · intro _; simp [vp_updL]
  · refine ⟨fun o' ho' => ?_, h.V.congr (by (intro k' j' w; (first | unfold ownP at w | unfold ownV at w | unfold ownI at w | unfold ownM at w | unfold ownC at w | unfold ownD at w | unfold ownN at w | unfold ownF at w | unfold ownX at w); simp only [i_up]; repeat rw [if_neg (by omega)])), h.I.congr (by (intro k' j' w; (first | unfold ownP at w | unfold ownV at w | unfold ownI at w | unfold ownM at w | unfold ownC at w | unfold ownD at w | unfold ownN at w | unfold ownF at w | unfold ownX at w); simp only [i_up]; repeat rw [if_neg (by omega)])), h.K.congr (by (intro k' j' w; (first | unfold ownP at w | unfold ownV at w | unfold ownI at w | unfold ownM at w | unfold ownC at w | unfold ownD at w | unfold ownN at w | unfold ownF at w | unfold ownX at w); simp only [i_up]; repeat rw [if_neg (by omega)]))⟩
    by_cases hkk : o' = k
    · subst hkk
      refine ⟨hP.C.congr (by (intro k' j' w; (first | unfold ownP at w | unfold ownV at w | unfold ownI at w | unfold ownM at w | unfold ownC at w | unfold ownD at w | unfold ownN at w | unfold ownF at w | unfold ownX at w); simp only [i_up]; repeat rw [if_neg (by omega)])), ?_, hP.N.congr (by (intro k' j' w; (first | unfold ownP at w | unfold ownV at w | unfold ownI at w | unfold ownM at w | unfold ownC at w | unfold ownD at w | unfold ownN at w | unfold ownF at w | unfold ownX at w); simp only [i_up]; repeat rw [if_neg (by omega)])), hP.F.congr (by (intro k' j' w; (first | unfold ownP at w | unfold ownV at w | unfold ownI at w | unfold ownM at w | unfold ownC at w | unfold ownD at w | unfold ownN at w | unfold ownF at w | unfold ownX at w); simp only [i_up]; repeat rw [if_neg (by omega)])), ?_⟩
      · obtain ⟨x1, x2, x3⟩ := hP.D
        rw [t_n]
        have := t_inc (x := c) (by omega)
        refine ⟨?_, ?_, ?_⟩ <;> simp only [i_up] <;> grind
      · obtain ⟨x1, x2⟩ := hP.X
        have := t_inc (x := c) (by omega)
        refine ⟨?_, ?_⟩ <;> simp only [i_up] <;> grind
    · exact (h.P o' ho').congr (by (intro k' j' w; (first | unfold ownP at w | unfold ownV at w | unfold ownI at w | unfold ownM at w | unfold ownC at w | unfold ownD at w | unfold ownN at w | unfold ownF at w | unfold ownX at w); simp only [i_up]; repeat rw [if_neg (by omega)]))
theorem op_clear {n : Nat} {M : sm_M} (h : Inv n M) (o : sm_O) (a0 : Int32) : opOK n (f_Law_clear M o a0) (fun M1 => f_Model_clear M1 a0) := by
  rcases c_bel a0 4 with ⟨g, -⟩ | ⟨g, g1, g2⟩
  · exact ok_fail h o 1 0 (by decide) (by simp [f_Law_clear, f_Mill_clear, g, i_b1]) (by simp [f_Model_clear, w3, g, i_b1, j_Model_clear_15, i_nm, i_up])
  obtain ⟨k, hk, rfl⟩ := c_o4 g1 g2
  have hP := h.P k hk
  have gd1 : ∀ {α : Type} (x : Option α), sm_gd (Int32.ofNat k) 4 x = x := fun x => i_gd (by rw [o_t k hk]; omega) (by rw [o_t k hk]; omega)
  have gd2 : ∀ {α : Type} (x : Option α), sm_gd ((2 : Int32) * Int32.ofNat k) 8 x = x := fun x => i_gd (by rw [o_2 k hk]; omega) (by rw [o_2 k hk]; omega)
  have gd3 : ∀ {α : Type} (x : Option α), sm_gd ((2 : Int32) * Int32.ofNat k + 1) 8 x = x := fun x => i_gd (by rw [o_21 k hk]; omega) (by rw [o_21 k hk]; omega)
  refine ⟨0, sm_up (sm_up (sm_up (sm_up M (3 + 14 * k + 1) 1 0) (3 + 14 * k + 3) 1 0) (3 + 14 * k) 6 0) (3 + 14 * k) 12 0, vp_updL o 0 1, 1, sm_up (sm_up (sm_up (sm_up (sm_up (sm_up (sm_up (sm_up (sm_up M (3 + 14 * k + 1) 1 0) (3 + 14 * k + 3) 1 0) (3 + 14 * k) 6 0) (3 + 14 * k) 12 0) 68 0 0) 70 (2 * k) 0) 70 (2 * k + 1) 0) 71 k 0) 76 k 0, ?_, ?_, ?_, ?_, ?_⟩
  · simp [f_Law_clear, f_Mill_clear, g, i_b1, gd1, i_nm, o_n k hk, f_Part_empty]
  · simp [f_Model_clear, w3, g, i_b1, j_Model_clear_15, gd1, gd2, gd3, o_n k hk, o_2n k hk, o_21n k hk, i_nm, i_up]
  · simp only [i_up]; simp
  · intro _; simp [vp_updL]
  · refine ⟨fun o' ho' => ?_, h.V.congr (by (intro k' j' w; (first | unfold ownP at w | unfold ownV at w | unfold ownI at w | unfold ownM at w | unfold ownC at w | unfold ownD at w | unfold ownN at w | unfold ownF at w | unfold ownX at w); simp only [i_up]; repeat rw [if_neg (by omega)])), h.I.congr (by (intro k' j' w; (first | unfold ownP at w | unfold ownV at w | unfold ownI at w | unfold ownM at w | unfold ownC at w | unfold ownD at w | unfold ownN at w | unfold ownF at w | unfold ownX at w); simp only [i_up]; repeat rw [if_neg (by omega)])), h.K.congr (by (intro k' j' w; (first | unfold ownP at w | unfold ownV at w | unfold ownI at w | unfold ownM at w | unfold ownC at w | unfold ownD at w | unfold ownN at w | unfold ownF at w | unfold ownX at w); simp only [i_up]; repeat rw [if_neg (by omega)]))⟩
    by_cases hkk : o' = k
    · subst hkk
      refine ⟨?_, ?_, ?_, ?_, ?_⟩
      · obtain ⟨x1, x2, x3⟩ := hP.C
        refine ⟨?_, ?_, ?_⟩ <;> (intros; (simp only [i_up] at *; (repeat (first | rw [if_neg (by omega)] | rw [if_pos (by omega)])); first | done | (simp; done) | grind (splits := 30)))
      · obtain ⟨x1, x2, x3⟩ := hP.D
        refine ⟨?_, ?_, ?_⟩ <;> (intros; (simp only [i_up] at *; (repeat (first | rw [if_neg (by omega)] | rw [if_pos (by omega)])); first | done | (simp; done) | grind (splits := 30)))
      · obtain ⟨x1, x2, x3, x4, x5, x6, x7, x8, x9, x10⟩ := hP.N
        refine ⟨?_, ?_, ?_, ?_, ?_, ?_, ?_, ?_, ?_, ?_⟩ <;> (intros; (simp only [i_up] at *; (repeat (first | rw [if_neg (by omega)] | rw [if_pos (by omega)])); first | done | (simp; done) | grind (splits := 30)))
      · obtain ⟨x1, x2, x3, x4, x5, x6, x7, x8, x9, x10⟩ := hP.F
        refine ⟨?_, ?_, ?_, ?_, ?_, ?_, ?_, ?_, ?_, ?_, ?_, ?_⟩ <;> (intros; (simp only [i_up] at *; (repeat (first | rw [if_neg (by omega)] | rw [if_pos (by omega)])); first | done | (simp; done) | grind (splits := 30)))
      · refine ⟨?_, ?_⟩ <;> (intros; (simp only [i_up] at *; (repeat (first | rw [if_neg (by omega)] | rw [if_pos (by omega)])); first | done | (simp; done) | grind (splits := 30)))
    · exact (h.P o' ho').congr (by (intro k' j' w; (first | unfold ownP at w | unfold ownV at w | unfold ownI at w | unfold ownM at w | unfold ownC at w | unfold ownD at w | unfold ownN at w | unfold ownF at w | unfold ownX at w); simp only [i_up]; repeat rw [if_neg (by omega)]))
