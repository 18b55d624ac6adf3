theorem b31 (x : Int32) : 0 ≤ (x &&& 31).toInt ∧ (x &&& 31).toInt < 32 := by
  have h1 : (x &&& 31).toBitVec.toNat ≤ 31 := by
    rw [Int32.toBitVec_and, BitVec.toNat_and]
    exact Nat.and_le_right
  rw [← Int32.toInt_toBitVec, BitVec.toInt_eq_toNat_cond]
  split <;> omega
theorem g31 (x : Int32) {α : Type} (y : Option α) : sm_gd (x &&& 31) 32 y = y := i_gd (b31 x).1 (by have := (b31 x).2; omega)
theorem n31 (x : Int32) : (x &&& 31).toNatClampNeg < 32 := by have := b31 x; rw [t_n]; omega
theorem c_up8 {n : Nat} {A B : sm_M} (h : MInv2 n A B) (x : Int32) : MInv2 n (sm_up A 64 8 x) (sm_up B 68 26 x) := by
  obtain ⟨h1, h2, h3, h4, h5, h6, h7, h8, h9, h10, h11, h12, h13, h14, h15⟩ := h
  refine ⟨?_, ?_, ?_, ?_, ?_, ?_, ?_, ?_, ?_, ?_, ?_, ?_, ?_, ?_, ?_⟩ <;> simp only [i_up] <;> grind
theorem c_up7 {n : Nat} {A B : sm_M} (h : MInv2 n A B) (x : Int32) (hx : x ≠ 0) : MInv2 n (sm_up A 64 7 x) (sm_up B 68 25 x) := by
  obtain ⟨h1, h2, h3, h4, h5, h6, h7, h8, h9, h10, h11, h12, h13, h14, h15⟩ := h
  refine ⟨?_, ?_, ?_, ?_, ?_, ?_, ?_, ?_, ?_, ?_, ?_, ?_, ?_, ?_, ?_⟩ <;> simp only [i_up] <;> grind
theorem c_up9 {n : Nat} {A B : sm_M} (h : MInv2 n A B) (x : Int32) : MInv2 n (sm_up A 64 9 x) (sm_up B 68 27 x) := by
  obtain ⟨h1, h2, h3, h4, h5, h6, h7, h8, h9, h10, h11, h12, h13, h14, h15⟩ := h
  refine ⟨?_, ?_, ?_, ?_, ?_, ?_, ?_, ?_, ?_, ?_, ?_, ?_, ?_, ?_, ?_⟩ <;> simp only [i_up] <;> grind
theorem c_upm {n : Nat} {A B : sm_M} (h : MInv2 n A B) (i : Nat) (x : Int32) : MInv2 n (sm_up A 65 i x) (sm_up B 87 i x) := by
  obtain ⟨h1, h2, h3, h4, h5, h6, h7, h8, h9, h10, h11, h12, h13, h14, h15⟩ := h
  refine ⟨?_, ?_, ?_, ?_, ?_, ?_, ?_, ?_, ?_, ?_, ?_, ?_, ?_, ?_, ?_⟩ <;> simp only [i_up] <;> grind
theorem c_ups {n : Nat} {A B : sm_M} (h : MInv2 n A B) (hn : n ≤ 1000000) (i : Nat) (x : Int32) : MInv2 (n + 1) (sm_up (sm_up A 67 i x) 64 10 (B 68 29 + 1)) (sm_up (sm_up B 89 i x) 68 29 (B 68 29 + 1)) := by
  obtain ⟨h1, h2, h3, h4, h5, h6, h7, h8, h9, h10, h11, h12, h13, h14, h15⟩ := h
  have := t_inc (x := B 68 29) (by omega)
  refine ⟨?_, ?_, ?_, ?_, ?_, ?_, ?_, ?_, ?_, ?_, ?_, ?_, ?_, ?_, ?_⟩ <;> simp only [i_up] <;> grind
theorem MInv2.mono {n n' : Nat} {A B : sm_M} (h : MInv2 n A B) (hn : n ≤ n') : MInv2 n' A B := by
  obtain ⟨h1, h2, h3, h4, h5, h6, h7, h8, h9, h10, h11, h12, h13, h14, h15⟩ := h
  exact ⟨h1, h2, h3, h4, h5, h6, h7, h8, h9, h10, h11, h12, h13, h14, h15.1, by omega⟩
def FA (A A' : sm_M) : Prop := (∀ k j, ¬ (64 ≤ k ∧ k ≤ 67) → A' k j = A k j) ∧ A' 64 9 = A 64 9
def FB (B B' : sm_M) : Prop := ∀ k j, ¬ ((87 ≤ k ∧ k ≤ 89) ∨ (k = 68 ∧ 20 ≤ j)) → B' k j = B k j
theorem FA.up {A : sm_M} {k j : Nat} {x : Int32} (h : 64 ≤ k ∧ k ≤ 67) (h2 : ¬ (k = 64 ∧ j = 9)) : FA A (sm_up A k j x) := ⟨fun a b w => by rw [i_up, if_neg (by omega)], by rw [i_up, if_neg (by omega)]⟩
theorem FA.rf {A : sm_M} : FA A A := ⟨fun _ _ _ => rfl, rfl⟩
theorem FA.tr {A B C : sm_M} (h : FA A B) (g : FA B C) : FA A C := ⟨fun k j w => (g.1 k j w).trans (h.1 k j w), g.2.trans h.2⟩
theorem FB.up {B : sm_M} {k j : Nat} {x : Int32} (h : (87 ≤ k ∧ k ≤ 89) ∨ (k = 68 ∧ 20 ≤ j)) : FB B (sm_up B k j x) := fun a b w => by rw [i_up, if_neg (by omega)]
theorem FB.tr {A B C : sm_M} (h : FB A B) (g : FB B C) : FB A C := fun k j w => (g k j w).trans (h k j w)
def stp (n : Nat) (A B : sm_M) (X Y : Option sm_M) : Prop := ∃ A' B', X = some A' ∧ Y = some B' ∧ MInv2 (n + 1) A' B' ∧ FA A A' ∧ FB B B'
theorem c_set {n : Nat} {A B : sm_M} (h : MInv2 n A B) (r x : Int32) (h0 : 0 ≤ r.toInt) (h1 : r.toInt < 32) : ∃ A' B', f_Machine_setRegister A r x = some A' ∧ f_Model_set B r x = some B' ∧ MInv2 n A' B' ∧ FA A A' ∧ FB B B' ∧ (∀ k j, k ≠ 66 → A' k j = A k j) ∧ (∀ k j, k ≠ 88 → B' k j = B k j) := by
  by_cases hr : r = 0
  · subst hr
    refine ⟨A, sm_up B 88 0 0, by simp [f_Machine_setRegister], ?_, ?_, FA.rf, FB.up (by omega), fun _ _ _ => rfl, fun k j w => by rw [i_up, if_neg (by omega)]⟩
    · unfold f_Model_set
      rw [if_pos rfl, i_gd (by decide) (by decide)]
      rfl
    · refine h.congr (fun _ _ _ => rfl) (fun k j w => ?_)
      rw [i_up]
      by_cases hk : k = 88 ∧ j = 0
      · rw [if_pos hk, hk.1, hk.2, h.rg0]
      · rw [if_neg hk]
  · refine ⟨sm_up A 66 r.toNatClampNeg x, sm_up B 88 r.toNatClampNeg x, ?_, ?_, ?_, FA.up (by omega) (by omega), FB.up (by omega), fun k j w => by rw [i_up, if_neg (by omega)], fun k j w => by rw [i_up, if_neg (by omega)]⟩
    · unfold f_Machine_setRegister
      rw [if_neg hr, i_gd (by omega) (by omega)]
      rfl
    · unfold f_Model_set
      rw [if_neg hr, i_gd (by omega) (by omega)]
      rfl
    · have hr2 : r.toNatClampNeg ≠ 0 := by
        rw [t_n]
        intro hh
        exact hr (Int32.toInt_inj.mp (by rw [t_0]; omega))
      obtain ⟨h1, h2, h3, h4, h5, h6, h7, h8, h9, h10, h11, h12, h13, h14, h15⟩ := h
      refine ⟨?_, ?_, ?_, ?_, ?_, ?_, ?_, ?_, ?_, ?_, ?_, ?_, ?_, ?_, ?_⟩ <;> simp only [i_up] <;> grind
/-- a register is set, then the way is gone on -/
theorem c_go {n : Nat} {A B : sm_M} (h : MInv2 n A B) (r x y : Int32) (h0 : 0 ≤ r.toInt) (h1 : r.toInt < 32) : stp n A B (sm_b1 (f_Machine_setRegister A r x) fun M' => some (sm_up M' 64 8 y)) (sm_b1 (f_Model_set B r x) fun M' => some (sm_up M' 68 26 y)) := by
  obtain ⟨A', B', e1, e2, e3, e4, e5, -, -⟩ := c_set h r x h0 h1
  exact ⟨sm_up A' 64 8 y, sm_up B' 68 26 y, by rw [e1, i_b1], by rw [e2, i_b1], (c_up8 e3 y).mono (by omega), e4.tr (FA.up (by omega) (by omega)), e5.tr (FB.up (by omega))⟩
theorem c_goOn {n : Nat} {A B : sm_M} (h : MInv2 n A B) (r x : Int32) (h0 : 0 ≤ r.toInt) (h1 : r.toInt < 32) : stp n A B (f_Machine_goOnWith A r x) (sm_b1 (f_Model_set B r x) fun M' => some (sm_up M' 68 26 (B 68 26 + 4))) := by
  obtain ⟨A', B', e1, e2, e3, e4, e5, e6, e7⟩ := c_set h r x h0 h1
  refine ⟨sm_up A' 64 8 (B 68 26 + 4), sm_up B' 68 26 (B 68 26 + 4), ?_, by rw [e2, i_b1], (c_up8 e3 _).mono (by omega), e4.tr (FA.up (by omega) (by omega)), e5.tr (FB.up (by omega))⟩
  rw [f_Machine_goOnWith, e1, i_b1, i_nm, e6 64 8 (by omega), h.m8]
