theorem c_43f (B : sm_M) : j_Model_step_43 B 31 = some (sm_up B 68 25 3) := by
  have e1 : ((31 : Int32) >>> ((5 : Int32) &&& 31)) &&& (31 : Int32) = 0 := by decide
  have e2 : ((31 : Int32) >>> ((10 : Int32) &&& 31)) &&& (31 : Int32) = 0 := by decide
  have e3 : (31 : Int32) &&& 31 = 31 := by decide
  simp only [j_Model_step_43, i_nm, e1, e2, e3]
  rw [i_gd (by decide) (by decide), i_gd (by decide) (by decide), if_neg (by decide), if_neg (by decide), if_neg (by decide)]
/-- a step: the number of steps told apart -/
theorem c_step {n : Nat} {A B : sm_M} (h : MInv2 n A B) (hn : n ≤ 1000000) : ∃ A' B', f_Machine_step A = some A' ∧ f_Model_step B = some B' ∧ MInv2 (n + 1) A' B' ∧ (∀ k j, ¬ (64 ≤ k ∧ k ≤ 67) → A' k j = A k j) ∧ A' 64 9 = A 64 9 + 1 ∧ FB B B' := by
  have h' := c_up9 h (A 64 9 + 1)
  have hh : B 68 27 = A 64 9 := h.m9.symm
  unfold f_Machine_step f_Model_step
  simp only [i_nm]
  rw [hh]
  have q8 : sm_up A 64 9 (A 64 9 + 1) 64 9 = A 64 9 + 1 := by rw [i_up, if_pos ⟨rfl, rfl⟩]
  have qf : ∀ k j, ¬ (64 ≤ k ∧ k ≤ 67) → sm_up A 64 9 (A 64 9 + 1) k j = A k j := fun k j w => by rw [i_up, if_neg (by omega)]
  have qb : FB B (sm_up B 68 27 (A 64 9 + 1)) := FB.up (by omega)
  generalize sm_up A 64 9 (A 64 9 + 1) = A1 at *
  generalize sm_up B 68 27 (A 64 9 + 1) = B1 at *
  obtain ⟨c1, c2, c3⟩ := h'.cwr
  obtain ⟨r, e1, e2, e3, e4⟩ := c_index h' (B1 68 26)
  rw [h'.m8, h'.m3, h'.m4, e4, e2, i_b1, i_b1]
  have fin : ∀ {X Y : Option sm_M}, stp n A1 B1 X Y → ∃ A' B', X = some A' ∧ Y = some B' ∧ MInv2 (n + 1) A' B' ∧ (∀ k j, ¬ (64 ≤ k ∧ k ≤ 67) → A' k j = A k j) ∧ A' 64 9 = A 64 9 + 1 ∧ FB B B' := by
    rintro X Y ⟨A', B', f1, f2, f3, f4, f5⟩
    exact ⟨A', B', f1, f2, f3, fun k j w => (f4.1 k j w).trans (qf k j w), f4.2.trans q8, qb.tr f5⟩
  by_cases hm : r = -1
  · subst hm
    have k : (-1 : Int32) < B1 68 21 := by rw [t_lt, t_m1]; omega
    rw [if_pos k, if_pos rfl, if_pos rfl, j_Model_step_32, c_43f]
    exact fin (c_fail h' 3 (by decide))
  rcases e3 with e3 | ⟨r0, r1⟩
  · exact absurd e3 hm
  by_cases hc : r < B1 68 21
  · have hc' := hc
    rw [t_lt] at hc'
    rw [if_pos hc, if_neg hm, if_neg hm, if_pos hc, i_gd (by omega) (by omega), i_gd (by omega) (by omega), h'.mw _ (by rw [t_n]; omega)]
    exact fin (c_exec h' hn _).b
  · rw [if_neg hc, if_pos rfl, if_neg hm, if_neg hc, j_Model_step_32, c_43f]
    exact fin (c_fail h' 3 (by decide))
theorem c_run (a : Int32) (a1 : a.toInt ≤ 500) (w2 : Int32) : ∀ (f n : Nat) (A B : sm_M) (i : Int32), MInv2 n A B → n + f ≤ 1000000 → B 68 0 = 0 → 0 ≤ i.toInt → i.toInt ≤ a.toInt → a.toInt - i.toInt < f → A 64 9 - w2 = i → ∃ A' B' r, sm_lp2 (g_Machine_advance_7 w2 a) f A i = some (r, A') ∧ sm_lp2 (g_Model_run_34 a) f B i = some (r, B') ∧ MInv2 (n + (a.toInt - i.toInt).toNat) A' B' ∧ (∀ k j, ¬ (64 ≤ k ∧ k ≤ 67) → A' k j = A k j) ∧ FB B B'
  | 0, n, A, B, i, h, hn, h0, i0, i1, hf, hw => by omega
  | f + 1, n, A, B, i, h, hn, h0, i0, i1, hf, hw => by
    show ∃ A' B' r, g_Machine_advance_7 w2 a (sm_lp2 (g_Machine_advance_7 w2 a) f) A i = some (r, A') ∧ g_Model_run_34 a (sm_lp2 (g_Model_run_34 a) f) B i = some (r, B') ∧ _
    rw [g_Machine_advance_7, g_Model_run_34, if_pos h0, h.m7]
    by_cases k1 : a ≤ i
    · rw [if_pos k1, if_pos k1, hw]
      exact ⟨A, B, i, rfl, rfl, h.mono (by omega), fun _ _ _ => rfl, fun _ _ _ => rfl⟩
    rw [if_neg k1, if_neg k1]
    by_cases k2 : B 68 25 = 1
    · rw [if_pos k2, if_pos k2]
      rw [t_le] at k1
      obtain ⟨A1, B1, e1, e2, e3, e4, e5, e6⟩ := c_step h (by omega)
      have ei := t_inc (x := i) (by omega)
      rw [e1, e2, i_b1, i_b1]
      obtain ⟨A', B', r, f1, f2, f3, f4, f5⟩ := c_run a a1 w2 f (n + 1) A1 B1 (i + 1) e3 (by omega) (by rw [e6 68 0 (by omega)]; exact h0) (by omega) (by omega) (by omega) (by rw [e5, ← hw]; grind)
      exact ⟨A', B', r, f1, f2, f3.mono (by omega), fun k j w => (f4 k j w).trans (e4 k j w), e6.tr f5⟩
    · rw [if_neg k2, if_neg k2, hw]
      exact ⟨A, B, i, rfl, rfl, h.mono (by omega), fun _ _ _ => rfl, fun _ _ _ => rfl⟩
theorem Inv.mono {n n' : Nat} {M : sm_M} (h : Inv n M) (hn : n ≤ n') : Inv n' M := ⟨h.P, h.V, h.I, h.K.mono hn⟩
theorem op_run {n : Nat} {M : sm_M} (h : Inv n M) (hn : n ≤ 900000) (o : sm_O) (a0 : Int32) : opOK (n + 500) (f_Law_run M o a0) (fun M1 => f_Model_run M1 a0) := by
  have h7 := h.K.m7
  have rf : ∀ z : Int32, z ≠ 0 → j_Model_run_29 M a0 z = some (0, sm_up M 68 0 z) := fun z hz => by
    have e : sm_up M 68 0 z 68 0 = z := by rw [i_up, if_pos ⟨rfl, rfl⟩]
    show g_Model_run_34 a0 (sm_lp2 (g_Model_run_34 a0) 1099) (sm_up M 68 0 z) 0 = _
    rw [g_Model_run_34, e, if_neg hz]
  by_cases k1 : a0 < 1
  · exact ok_fail (h.mono (by omega)) o 1 0 (by decide) (by simp [f_Law_run, f_Mill_run, k1, i_b1]) (by simp [f_Model_run, k1, j_Model_run_13, rf])
  by_cases k2 : a0 ≤ 500
  · by_cases k3 : M 68 25 = 0
    · exact ok_fail (h.mono (by omega)) o 2 0 (by decide) (by simp [f_Law_run, f_Mill_run, k1, k2, h7, k3, i_b1]) (by simp [f_Model_run, k1, k2, k3, rf])
    · have p1 := k1
      have p2 := k2
      rw [t_lt, t_1] at p1
      rw [t_le] at p2
      have p2 : a0.toInt ≤ 500 := p2
      -- the class runs, then the reference, each over its own cells
      have hB : MInv2 n M (sm_up M 68 0 0) := MInv2.congr h.K (fun _ _ _ => rfl) (fun k j w => by rw [i_up, if_neg (by omega)])
      obtain ⟨A', B0, r, f1, -, -, f4, -⟩ := c_run a0 p2 (M 64 9) 1100 n M (sm_up M 68 0 0) 0 hB (by omega) (by rw [i_up, if_pos ⟨rfl, rfl⟩]) (by decide) (by rw [t_0]; omega) (by rw [t_0]; omega) (by grind)
      have hB' : MInv2 n M (sm_up A' 68 0 0) := MInv2.congr h.K (fun _ _ _ => rfl) (fun k j w => by rw [i_up, if_neg (by omega), f4 k j (by omega)])
      obtain ⟨A2, B', r2, g1, g2, g3, g4, g5⟩ := c_run a0 p2 (M 64 9) 1100 n M (sm_up A' 68 0 0) 0 hB' (by omega) (by rw [i_up, if_pos ⟨rfl, rfl⟩]) (by decide) (by rw [t_0]; omega) (by rw [t_0]; omega) (by grind)
      rw [f1] at g1
      cases g1
      have q25 : A' 68 25 = M 68 25 := f4 68 25 (by omega)
      have same : ∀ k j, ¬ (64 ≤ k ∧ k ≤ 67) → ¬ ((87 ≤ k ∧ k ≤ 89) ∨ (k = 68 ∧ 20 ≤ j)) → ¬ (k = 68 ∧ j = 0) → B' k j = M k j := fun k j w1 w2 w3 => by
        rw [g5 k j w2, i_up, if_neg w3, f4 k j w1]
      refine ⟨0, A', vp_updL o 0 (Int32.toInt64 r), r, B', ?_, ?_, ?_, fun _ => by simp [vp_updL], ?_⟩
      · simp [f_Law_run, f_Mill_run, k1, k2, h7, k3, i_b1, f_Machine_advance, i_nm, f1, i_b2]
      · simp only [f_Model_run, k1, k2, q25, k3, if_true, if_false, j_Model_run_29, i_nm]
        exact g2
      · rw [g5 68 0 (by omega), i_up, if_pos ⟨rfl, rfl⟩]
      · refine ⟨fun o' ho' => (h.P o' ho').congr (fun k j w => ?_), h.V.congr (fun k j w => ?_), h.I.congr (fun k j w => ?_), ?_⟩
        · unfold ownP at w
          exact same k j (by omega) (by omega) (by omega)
        · unfold ownV at w
          exact same k j (by omega) (by omega) (by omega)
        · unfold ownI at w
          exact same k j (by omega) (by omega) (by omega)
        · refine MInv2.congr (g3.mono (n' := n + 500) (by rw [t_0]; omega)) (fun k j w => ?_) (fun _ _ _ => rfl)
          rw [g5 k j (by omega), i_up, if_neg (by omega)]
  · exact ok_fail (h.mono (by omega)) o 1 0 (by decide) (by simp [f_Law_run, f_Mill_run, k1, k2, i_b1]) (by simp [f_Model_run, k1, k2, j_Model_run_13, rf])
