def stg (s : Nat) (S : Nat → Int32) (b : Int32) : Nat → Int32
  | 0 => b
  | o + 1 => stg s S b o + 4 * S (2 * o + s)
def dS (S : Nat → Int32) (b : Int32) : Int32 := (stg 0 S b 4 + 63) / 64 * 64
theorem lay_s (s : Int32) (sn : Nat) (hs : s.toInt = sn) (h2 : sn < 2) (S : Nat → Int32) (b : Int32) : ∀ (f i : Nat) (A : sm_M) (w x : Int32), (∀ o, o < 4 → A (3 + 14 * o + (1 + 2 * sn)) 1 = S (2 * o + sn)) → w.toInt = i → i ≤ 4 → x = stg sn S b i → 4 - i < f → sm_lp3 (g_Linker_layOutSections_5 s) f A w x = some (stg sn S b 4, w_fill A 59 (fun j => stg sn S b (j - 4 * sn)) (4 * sn + i) (4 - i))
  | 0, i, A, w, x, _, _, _, _, h => by omega
  | f + 1, i, A, w, x, hA, hw, hi, hx, hf => by
    have L4 := L_4
    have e4 : (s * 4).toInt = 4 * sn := by rw [Int32.toInt_mul, L_4, hs, Int.bmod_def]; omega
    rw [lp3_s, g_Linker_layOutSections_5]
    by_cases c : (4 : Int32) ≤ w
    · rw [if_pos c]
      rw [t_le] at c
      have : i = 4 := by omega
      subst this
      rw [hx]
      rfl
    · rw [if_neg c]
      rw [t_le] at c
      have e : (s * 4 + w).toInt = 4 * sn + i := by have := t_add (x := s * 4) (y := w) (by omega) (by omega); omega
      have ei := t_inc (x := w) (by omega)
      have hw2 : w.toNatClampNeg = i := by rw [t_n]; omega
      have hs2 : f_Part_sectionOf (sm_up A 59 (4 * sn + i) x) (3 + 14 * i) s = some (3 + 14 * i + (1 + 2 * sn)) := by
        rw [f_Part_sectionOf]
        by_cases z : s = 0
        · have z2 : sn = 0 := by subst z; rw [t_0] at hs; omega
          rw [if_pos z, z2]
        · have z2 : sn = 1 := by
            have : sn ≠ 0 := fun q => z (Int32.toInt_inj.mp (by rw [hs, q]; rfl))
            omega
          rw [if_neg z, z2]
      rw [i_gd (by omega) (by omega), t_n, e, show ((4 * sn + i : Int)).toNat = 4 * sn + i by omega, i_nm, i_gd (by omega) (by omega), i_nm, hw2, hs2, i_b1, i_nm]
      rw [i_up, if_neg (by omega), hA i (by omega)]
      rw [lay_s s sn hs h2 S b f (i + 1) _ (w + 1) _ (fun o ho => by rw [i_up, if_neg (by omega)]; exact hA o ho) (by omega) (by omega) (by rw [stg, hx]) (by omega)]
      congr 2
      rw [show 4 - i = (4 - (i + 1)) + 1 by omega, w_fill]
      rw [hx, show 4 * sn + i - 4 * sn = i by omega]
      rfl
theorem lay_o (A : sm_M) (b : Int32) (S : Nat → Int32) (h0 : ∀ o, o < 4 → A (3 + 14 * o + 1) 1 = S (2 * o)) (h1 : ∀ o, o < 4 → A (3 + 14 * o + 3) 1 = S (2 * o + 1)) : ∃ A', f_Linker_layOut A b = some A' ∧ A' 1 4 = b ∧ A' 1 5 = stg 0 S b 4 ∧ A' 1 6 = dS S b ∧ A' 1 7 = stg 1 S (dS S b) 4 ∧ (∀ o, o < 4 → A' 59 o = stg 0 S b o) ∧ (∀ o, o < 4 → A' 59 (4 + o) = stg 1 S (dS S b) o) ∧ (∀ k j, k ≠ 1 → k ≠ 59 → A' k j = A k j) := by
  have g0 := lay_s 0 0 rfl (by omega) S b 1100 0 (sm_up A 1 4 b) 0 b (fun o ho => by rw [i_up, if_neg (by omega)]; exact h0 o ho) rfl (by omega) rfl (by omega)
  rw [f_Linker_layOut, i_nm, f_Linker_layOutSections, show sm_up A 1 4 b 1 4 = b by rw [i_up, if_pos ⟨rfl, rfl⟩], g0, i_b2, i_nm, i_nm]
  simp only []
  have x5 : ∀ M' : sm_M, sm_up M' 1 5 (stg 0 S b 4) 1 5 = stg 0 S b 4 := fun M' => by rw [i_up, if_pos ⟨rfl, rfl⟩]
  have x6 : (stg 0 S b 4 + 64 - 1) / 64 * 64 = dS S b := by rw [dS, show stg 0 S b 4 + 64 - 1 = stg 0 S b 4 + 63 by grind]
  have x7 : ∀ M' : sm_M, sm_up M' 1 6 (dS S b) 1 6 = dS S b := fun M' => by rw [i_up, if_pos ⟨rfl, rfl⟩]
  rw [x5, x6, x7]
  have g1 := lay_s 1 1 rfl (by omega) S (dS S b) 1100 0 (sm_up (sm_up (w_fill (sm_up A 1 4 b) 59 (fun j => stg 0 S b (j - 4 * 0)) (4 * 0 + 0) (4 - 0)) 1 5 (stg 0 S b 4)) 1 6 (dS S b)) 0 (dS S b) (fun o ho => by rw [i_up, if_neg (by omega), i_up, if_neg (by omega), w_fill_at, if_neg (by omega), i_up, if_neg (by omega)]; exact h1 o ho) rfl (by omega) rfl (by omega)
  rw [f_Linker_layOutSections, g1, i_b2, i_nm]
  refine ⟨_, rfl, ?_, ?_, ?_, ?_, ?_, ?_, ?_⟩
  · simp [i_up, w_fill_at]
  · simp [i_up, w_fill_at]
  · simp [i_up, w_fill_at]
  · simp [i_up, w_fill_at]
  · intro o ho
    simp only [i_up, w_fill_at]
    repeat (first | rw [if_neg (by omega)] | rw [if_pos (by omega)] | rw [if_pos ⟨trivial, by omega, by omega⟩])
    rfl
  · intro o ho
    simp only [i_up, w_fill_at]
    repeat (first | rw [if_neg (by omega)] | rw [if_pos (by omega)] | rw [if_pos ⟨trivial, by omega, by omega⟩])
    rw [show 4 + o - 4 * 1 = o by omega]
  · intro k j hk1 hk2
    simp only [i_up, w_fill_at]
    repeat rw [if_neg (by omega)]
theorem beg_32 (s : Int32) (sn : Nat) (hs : s.toInt = sn) (h2 : sn < 2) (S : Nat → Int32) (b : Int32) (rec4 : sm_M → Int32 → Int32 → Option sm_M) : ∀ (f i : Nat) (B : sm_M) (w x : Int32), B 70 = S → w.toInt = i → i ≤ 4 → x = stg sn S b i → 4 - i < f → ∃ B', sm_lp3 (g_Model_begins_32 s rec4) f B w x = rec4 B' (s + 1) (stg sn S b 4) ∧ (∀ o, i ≤ o → o < 4 → B' 83 (2 * o + sn) = stg sn S b o) ∧ (∀ k j, ¬ (k = 83 ∧ ∃ o, i ≤ o ∧ o < 4 ∧ j = 2 * o + sn) → B' k j = B k j)
  | 0, i, B, w, x, _, _, _, _, h => by omega
  | f + 1, i, B, w, x, hB, hw, hi, hx, hf => by
    have L4 := L_4
    have e4 : (2 * w).toInt = 2 * i := by rw [Int32.toInt_mul, L_2, hw, Int.bmod_def]; omega
    rw [lp3_s, g_Model_begins_32]
    by_cases c : (4 : Int32) ≤ w
    · rw [if_pos c]
      rw [t_le] at c
      have : i = 4 := by omega
      subst this
      exact ⟨B, by rw [hx], fun o a b => by omega, fun k j _ => rfl⟩
    · rw [if_neg c]
      rw [t_le] at c
      have e : (2 * w + s).toInt = 2 * i + sn := by have := t_add (x := 2 * w) (y := s) (by omega) (by omega); omega
      have ei := t_inc (x := w) (by omega)
      rw [i_gd (by omega) (by omega), t_n, e, show ((2 * i + sn : Int)).toNat = 2 * i + sn by omega, i_nm, i_gd (by omega) (by omega), i_nm]
      rw [i_up, if_neg (by omega), hB]
      obtain ⟨B', p1, p2, p3⟩ := beg_32 s sn hs h2 S b rec4 f (i + 1) (sm_up B 83 (2 * i + sn) x) (w + 1) (x + 4 * S (2 * i + sn)) (funext fun j => by rw [i_up, if_neg (by omega), hB]) (by omega) (by omega) (by rw [stg, hx]) (by omega)
      refine ⟨B', p1, ?_, ?_⟩
      · intro o a b
        by_cases q : o = i
        · subst q
          rw [p3 83 _ (fun z => by obtain ⟨_, o', z1, z2, z3⟩ := z; omega), i_up, if_pos ⟨rfl, rfl⟩, hx]
        · exact p2 o (by omega) b
      · intro k j z
        rw [p3 k j (fun y => z ⟨y.1, by obtain ⟨_, o', z1, z2, z3⟩ := y; exact ⟨o', by omega, z2, z3⟩⟩), i_up, if_neg]
        rintro ⟨y1, y2⟩
        exact z ⟨y1, i, by omega, by omega, y2⟩
theorem beg_80 : ∀ (f i : Nat) (B : sm_M) (w : Int32), w.toInt = i → i ≤ 192 → 192 - i < f → ∃ B', sm_lp2 g_Model_begins_80 f B w = some B' ∧ (∀ j, i ≤ j → j < 192 → B' 82 j = B 69 j) ∧ (∀ k j, ¬ (k = 82 ∧ i ≤ j ∧ j < 192) → B' k j = B k j)
  | 0, i, B, w, _, _, h => by omega
  | f + 1, i, B, w, hw, hi, hf => by
    have L192 : (192 : Int32).toInt = 192 := rfl
    rw [lp2_s, g_Model_begins_80]
    by_cases c : (192 : Int32) ≤ w
    · rw [if_pos c]
      rw [t_le] at c
      exact ⟨B, rfl, fun j a b => by omega, fun k j _ => rfl⟩
    · rw [if_neg c]
      rw [t_le] at c
      have ei := t_inc (x := w) (by omega)
      rw [i_gd (by omega) (by omega), i_gd (by omega) (by omega), t_n, hw, show ((i : Int)).toNat = i by omega, i_nm]
      obtain ⟨B', p1, p2, p3⟩ := beg_80 f (i + 1) (sm_up B 82 i (B 69 i)) (w + 1) (by omega) (by omega) (by omega)
      refine ⟨B', p1, ?_, ?_⟩
      · intro j a b
        by_cases q : j = i
        · subst q
          rw [p3 82 _ (by omega), i_up, if_pos ⟨rfl, rfl⟩]
        · rw [p2 j (by omega) b, i_up, if_neg (by omega)]
      · intro k j z
        rw [p3 k j (by omega), i_up, if_neg (by omega)]
theorem beg_o (B : sm_M) (b : Int32) : ∃ B', f_Model_begins B b = some B' ∧ (∀ o, o < 4 → B' 83 (2 * o) = stg 0 (B 70) b o) ∧ (∀ o, o < 4 → B' 83 (2 * o + 1) = stg 1 (B 70) (dS (B 70) b) o) ∧ (∀ j, j < 192 → B' 82 j = B 69 j) ∧ (∀ k j, k ≠ 82 → k ≠ 83 → B' k j = B k j) := by
  rw [f_Model_begins, show (1100 : Nat) = 1097 + 1 + 1 + 1 from rfl, lp3_s, g_Model_begins_4, if_neg (by decide), if_neg (by decide), j_Model_begins_28]
  obtain ⟨B1, p1, p2, p3⟩ := beg_32 0 0 rfl (by omega) (B 70) b (sm_lp3 g_Model_begins_4 (1097 + 1 + 1)) 1100 0 B 0 b rfl rfl (by omega) rfl (by omega)
  rw [p1, lp3_s, g_Model_begins_4, if_neg (by decide), if_pos (by decide), j_Model_begins_28]
  have h70 : B1 70 = B 70 := funext fun j => p3 _ _ (by omega)
  obtain ⟨B2, q1, q2, q3⟩ := beg_32 (0 + 1) 1 rfl (by omega) (B 70) (dS (B 70) b) (sm_lp3 g_Model_begins_4 (1097 + 1)) 1100 0 B1 0 (dS (B 70) b) h70 rfl (by omega) rfl (by omega)
  rw [show (stg 0 (B 70) b 4 + 63) / 64 * 64 = dS (B 70) b from rfl, q1, lp3_s, g_Model_begins_4, if_pos (by decide)]
  obtain ⟨B3, r1, r2, r3⟩ := beg_80 1100 0 B2 0 rfl (by omega) (by omega)
  refine ⟨B3, r1, ?_, ?_, ?_, ?_⟩
  · intro o ho
    rw [r3 _ _ (by omega), q3 _ _ (fun z => by obtain ⟨_, o', z1, z2, z3⟩ := z; omega)]
    exact p2 o (by omega) ho
  · intro o ho
    rw [r3 _ _ (by omega)]
    exact q2 o (by omega) ho
  · intro j hj
    rw [r2 j (by omega) hj, q3 _ _ (by omega), p3 _ _ (by omega)]
  · intro k j h1 h2
    rw [r3 _ _ (by omega), q3 _ _ (fun z => h2 z.1), p3 _ _ (fun z => h2 z.1)]
