theorem fa_step {A : sm_M} (f : Nat) (i i' k c : Int32) (h0 : 0 ≤ i.toInt) (h1 : i.toInt < 9) (hi : i + 1 = i') (hk : sm_ord i.toNatClampNeg = k) (hc : f_Reader_isAsItMust A k = some c) : sm_lp1 (g_Reader_faultOf_2 A) (f + 1) i = if A 62 1 < 4 * (k + 1) then some (-1 - k) else if c = 0 then some (-1 - k) else sm_lp1 (g_Reader_faultOf_2 A) f i' := by
  subst hi
  rw [lp1_s, g_Reader_faultOf_2, if_neg (by rw [t_le]; exact Int.not_le.mpr h1), i_gd h0 h1, i_nm, hk, hc, i_b1]
theorem mo_step {B : sm_M} (f : Nat) (i i' k c : Int32) (h1 : i.toInt < 9) (hi : i + 1 = i') (hk : f_Model_turn i = some k) (hc : f_Model_isGood B k = if (4 : Int32) * k + 4 ≤ B 68 18 then some c else some 0) : sm_lp1 (g_Model_read_7 B) (f + 1) i = if (4 : Int32) * k + 4 ≤ B 68 18 then (if c = 0 then some (-1 - k, B) else sm_lp1 (g_Model_read_7 B) f i') else some (-1 - k, B) := by
  subst hi
  rw [lp1_s, g_Model_read_7, if_neg (by rw [t_le]; exact Int.not_le.mpr h1), hk, i_b1, hc]
  by_cases q : (4 : Int32) * k + 4 ≤ B 68 18
  · rw [if_pos q, if_pos q, i_b1, i_b1]
  · rw [if_neg q, if_neg q, i_b1, if_pos rfl, i_b1]
/-- one word of the header after another: what is found is the same -/
theorem rd_step {A B : sm_M} (hs : A 62 1 = B 68 18) (f : Nat) (i i' k : Int32) (h0 : 0 ≤ i.toInt) (h1 : i.toInt < 9) (hi : i + 1 = i') (hk : sm_ord i.toNatClampNeg = k) (ht : f_Model_turn i = some k) (hg : gk A B k) (h4 : (4 : Int32) * (k + 1) = 4 * k + 4) :
    (∃ r, r ≠ 0 ∧ sm_lp1 (g_Reader_faultOf_2 A) (f + 1) i = some r ∧ sm_lp1 (g_Model_read_7 B) (f + 1) i = some (r, B)) ∨ (sm_lp1 (g_Reader_faultOf_2 A) (f + 1) i = sm_lp1 (g_Reader_faultOf_2 A) f i' ∧ sm_lp1 (g_Model_read_7 B) (f + 1) i = sm_lp1 (g_Model_read_7 B) f i' ∧ (k = 3 → 4 ≤ wd (B 86) 12 ∧ wd (B 86) 12 ≤ 4096 ∧ wd (B 86) 12 - wd (B 86) 12 / 4 * 4 = 0) ∧ (k = 6 → 0 ≤ wd (B 86) 24 ∧ wd (B 86) 24 ≤ 4096 ∧ wd (B 86) 24 - wd (B 86) 24 / 4 * 4 = 0)) ∨ (-1 - k = 0) := by
  obtain ⟨c, e1, e2, e3⟩ := hg
  by_cases hz : -1 - k = 0
  · exact Or.inr (Or.inr hz)
  rw [fa_step f i i' k c h0 h1 hi hk e1, mo_step f i i' k c h1 hi ht e2, hs, h4]
  by_cases q : (4 : Int32) * k + 4 ≤ B 68 18
  · have q' : ¬ B 68 18 < (4 : Int32) * k + 4 := by rw [t_lt]; rw [t_le] at q; omega
    rw [if_pos q, if_neg q']
    by_cases qc : c = 0
    · rw [if_pos qc, if_pos qc]
      exact Or.inl ⟨_, hz, rfl, rfl⟩
    · rw [if_neg qc, if_neg qc]
      exact Or.inr (Or.inl ⟨rfl, rfl, e3 qc⟩)
  · have q' : B 68 18 < (4 : Int32) * k + 4 := by rw [t_lt]; rw [t_le] at q; omega
    rw [if_neg q, if_pos q']
    exact Or.inl ⟨_, hz, rfl, rfl⟩
theorem rd_all {A B : sm_M} (hs : A 62 1 = B 68 18) (him : ∀ j : Nat, j < 1000 → A 63 j = B 86 j) (f : Nat) :
    (∃ r, r ≠ 0 ∧ sm_lp1 (g_Reader_faultOf_2 A) (f + 1 + 1 + 1 + 1 + 1 + 1 + 1 + 1 + 1) 0 = some r ∧ sm_lp1 (g_Model_read_7 B) (f + 1 + 1 + 1 + 1 + 1 + 1 + 1 + 1 + 1) 0 = some (r, B)) ∨ (sm_lp1 (g_Reader_faultOf_2 A) (f + 1 + 1 + 1 + 1 + 1 + 1 + 1 + 1 + 1) 0 = sm_lp1 (g_Reader_faultOf_2 A) f 9 ∧ sm_lp1 (g_Model_read_7 B) (f + 1 + 1 + 1 + 1 + 1 + 1 + 1 + 1 + 1) 0 = sm_lp1 (g_Model_read_7 B) f 9 ∧ (4 ≤ wd (B 86) 12 ∧ wd (B 86) 12 ≤ 4096 ∧ wd (B 86) 12 - wd (B 86) 12 / 4 * 4 = 0) ∧ (0 ≤ wd (B 86) 24 ∧ wd (B 86) 24 ≤ 4096 ∧ wd (B 86) 24 - wd (B 86) 24 / 4 * 4 = 0)) := by
  rcases rd_step hs (f + 1 + 1 + 1 + 1 + 1 + 1 + 1 + 1) 0 1 0 (by decide) (by decide) rfl rfl rfl (g_0 him) rfl with h | ⟨a0, b0, -, -⟩ | h
  · exact Or.inl h
  rotate_left
  · exact absurd h (by decide)
  rcases rd_step hs (f + 1 + 1 + 1 + 1 + 1 + 1 + 1) 1 2 2 (by decide) (by decide) rfl rfl rfl (g_2 him) rfl with h | ⟨a1, b1, -, -⟩ | h
  · rw [a0, b0]; exact Or.inl h
  rotate_left
  · exact absurd h (by decide)
  rcases rd_step hs (f + 1 + 1 + 1 + 1 + 1 + 1) 2 3 3 (by decide) (by decide) rfl rfl rfl (g_3 him) rfl with h | ⟨a2, b2, c3, -⟩ | h
  · rw [a0, b0, a1, b1]; exact Or.inl h
  rotate_left
  · exact absurd h (by decide)
  rcases rd_step hs (f + 1 + 1 + 1 + 1 + 1) 3 4 4 (by decide) (by decide) rfl rfl rfl (g_4 him) rfl with h | ⟨a3, b3, -, -⟩ | h
  · rw [a0, b0, a1, b1, a2, b2]; exact Or.inl h
  rotate_left
  · exact absurd h (by decide)
  rcases rd_step hs (f + 1 + 1 + 1 + 1) 4 5 1 (by decide) (by decide) rfl rfl rfl (g_1 him) rfl with h | ⟨a4, b4, -, -⟩ | h
  · rw [a0, b0, a1, b1, a2, b2, a3, b3]; exact Or.inl h
  rotate_left
  · exact absurd h (by decide)
  rcases rd_step hs (f + 1 + 1 + 1) 5 6 5 (by decide) (by decide) rfl rfl rfl (g_5 him) rfl with h | ⟨a5, b5, -, -⟩ | h
  · rw [a0, b0, a1, b1, a2, b2, a3, b3, a4, b4]; exact Or.inl h
  rotate_left
  · exact absurd h (by decide)
  rcases rd_step hs (f + 1 + 1) 6 7 6 (by decide) (by decide) rfl rfl rfl (g_6 him) rfl with h | ⟨a6, b6, -, c6⟩ | h
  · rw [a0, b0, a1, b1, a2, b2, a3, b3, a4, b4, a5, b5]; exact Or.inl h
  rotate_left
  · exact absurd h (by decide)
  rcases rd_step hs (f + 1) 7 8 7 (by decide) (by decide) rfl rfl rfl (g_7 him) rfl with h | ⟨a7, b7, -, -⟩ | h
  · rw [a0, b0, a1, b1, a2, b2, a3, b3, a4, b4, a5, b5, a6, b6]; exact Or.inl h
  rotate_left
  · exact absurd h (by decide)
  rcases rd_step hs f 8 9 8 (by decide) (by decide) rfl rfl rfl (g_8 him) rfl with h | ⟨a8, b8, -, -⟩ | h
  · rw [a0, b0, a1, b1, a2, b2, a3, b3, a4, b4, a5, b5, a6, b6, a7, b7]; exact Or.inl h
  rotate_left
  · exact absurd h (by decide)
  refine Or.inr ⟨?_, ?_, c3 rfl, c6 rfl⟩
  · rw [a0, a1, a2, a3, a4, a5, a6, a7, a8]
  · rw [b0, b1, b2, b3, b4, b5, b6, b7, b8]
