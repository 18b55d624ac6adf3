/-- the word of four bytes -/
def wd (f : Nat → Int32) (i : Nat) : Int32 := (((f i) ||| ((f (i + 1)) <<< ((8 : Int32) &&& 31))) ||| ((f (i + 2)) <<< ((16 : Int32) &&& 31))) ||| ((f (i + 3)) <<< ((24 : Int32) &&& 31))
theorem L_2 : (2 : Int32).toInt = 2 := rfl
theorem L_3 : (3 : Int32).toInt = 3 := rfl
theorem L_4 : (4 : Int32).toInt = 4 := rfl
theorem w_im (A : sm_M) (i : Int32) (h0 : 0 ≤ i.toInt) (h1 : i.toInt ≤ 996) : f_Image_wordAt A i = some (wd (A 63) i.toInt.toNat) := by
  have e1 : (i + 1).toInt = i.toInt + 1 := by rw [t_add, t_1] <;> rw [t_1] <;> omega
  have e2 : (i + 2).toInt = i.toInt + 2 := by rw [t_add, L_2] <;> rw [L_2] <;> omega
  have e3 : (i + 3).toInt = i.toInt + 3 := by rw [t_add, L_3] <;> rw [L_3] <;> omega
  rw [f_Image_wordAt, i_gd (by omega) (by omega), i_gd (by omega) (by omega), i_gd (by omega) (by omega), i_gd (by omega) (by omega), t_n, t_n, t_n, t_n, e1, e2, e3]
  rw [show (i.toInt + 1).toNat = i.toInt.toNat + 1 by omega, show (i.toInt + 2).toNat = i.toInt.toNat + 2 by omega, show (i.toInt + 3).toNat = i.toInt.toNat + 3 by omega]
  rfl
theorem w_mo (B : sm_M) (k : Int32) (h0 : 0 ≤ k.toInt) (h1 : k.toInt ≤ 249) : f_Model_wordAt B k = some (wd (B 86) (4 * k.toInt).toNat) := by
  have e0 : ((4 : Int32) * k).toInt = 4 * k.toInt := by
    rw [Int32.toInt_mul, L_4, Int.bmod_def]; omega
  have e1 : ((4 : Int32) * k + 1).toInt = 4 * k.toInt + 1 := by rw [t_add, t_1, e0] <;> rw [t_1, e0] <;> omega
  have e2 : ((4 : Int32) * k + 2).toInt = 4 * k.toInt + 2 := by rw [t_add, L_2, e0] <;> rw [L_2, e0] <;> omega
  have e3 : ((4 : Int32) * k + 3).toInt = 4 * k.toInt + 3 := by rw [t_add, L_3, e0] <;> rw [L_3, e0] <;> omega
  rw [f_Model_wordAt, i_gd (by omega) (by omega), i_gd (by omega) (by omega), i_gd (by omega) (by omega), i_gd (by omega) (by omega), t_n, t_n, t_n, t_n, e0, e1, e2, e3]
  rw [show (4 * k.toInt + 1).toNat = (4 * k.toInt).toNat + 1 by omega, show (4 * k.toInt + 2).toNat = (4 * k.toInt).toNat + 2 by omega, show (4 * k.toInt + 3).toNat = (4 * k.toInt).toNat + 3 by omega]
  rfl
theorem w_eq {f g : Nat → Int32} (h : ∀ j : Nat, j < 1000 → f j = g j) {i : Nat} (hi : i ≤ 996) : wd f i = wd g i := by
  unfold wd
  rw [h i (by omega), h (i + 1) (by omega), h (i + 2) (by omega), h (i + 3) (by omega)]
theorem w_hd (A : sm_M) (k : Int32) (h0 : 0 ≤ k.toInt) (h1 : k.toInt ≤ 249) : f_Image_headerWord A k = some (wd (A 63) (4 * k.toInt).toNat) := by
  have e0 : ((4 : Int32) * k).toInt = 4 * k.toInt := by
    rw [Int32.toInt_mul, L_4, Int.bmod_def]; omega
  rw [f_Image_headerWord, w_im A _ (by omega) (by omega), i_b1, e0]
theorem lp1_s {A R : Type} (f : (A → Option R) → A → Option R) (n : Nat) (a : A) : sm_lp1 f (n + 1) a = f (sm_lp1 f n) a := rfl
theorem lp2_s {A B R : Type} (f : (A → B → Option R) → A → B → Option R) (n : Nat) (a : A) (b : B) : sm_lp2 f (n + 1) a b = f (sm_lp2 f n) a b := rfl
theorem hs_s (A : sm_M) (f : Nat) (k s : Int32) (h0 : 0 ≤ k.toInt) (h1 : k.toInt < 8) : sm_lp2 (g_Image_headerSum_4 A) (f + 1) k s = sm_lp2 (g_Image_headerSum_4 A) f (k + 1) (s + wd (A 63) (4 * k.toInt).toNat) := by
  rw [lp2_s, g_Image_headerSum_4, if_neg (by rw [t_le]; exact Int.not_le.mpr h1), w_hd A k h0 (by omega), i_b1, i_nm]
theorem ms_s (B : sm_M) (w : Int32) (f : Nat) (k k' s : Int32) (i : Nat) (h0 : 0 ≤ k.toInt) (h1 : k.toInt < 8) (hi : (4 * k.toInt).toNat = i) (hk : k + 1 = k') : sm_lp2 (g_Model_isGood_285 B w) (f + 1) k s = sm_lp2 (g_Model_isGood_285 B w) f k' (s + wd (B 86) i) := by
  subst hk
  subst hi
  rw [lp2_s, g_Model_isGood_285, if_neg (by rw [t_le]; exact Int.not_le.mpr h1), w_mo B k h0 (by omega), i_b1, i_nm]
def hsum (f : Nat → Int32) : Int32 := 0 + wd f 0 + wd f 4 + wd f 8 + wd f 12 + wd f 16 + wd f 20 + wd f 24 + wd f 28
theorem hs_s2 (A : sm_M) (f : Nat) (k k' s : Int32) (i : Nat) (h0 : 0 ≤ k.toInt) (h1 : k.toInt < 8) (hi : (4 * k.toInt).toNat = i) (hk : k + 1 = k') : sm_lp2 (g_Image_headerSum_4 A) (f + 1) k s = sm_lp2 (g_Image_headerSum_4 A) f k' (s + wd (A 63) i) := by
  subst hk
  subst hi
  exact hs_s A f k s h0 h1
theorem hs_all9 (A : sm_M) (f : Nat) : sm_lp2 (g_Image_headerSum_4 A) (f + 1 + 1 + 1 + 1 + 1 + 1 + 1 + 1 + 1) 0 0 = some (hsum (A 63)) := by
  unfold hsum
  rw [hs_s2 A _ 0 1 _ 0 (by decide) (by decide) rfl rfl, hs_s2 A _ 1 2 _ 4 (by decide) (by decide) rfl rfl, hs_s2 A _ 2 3 _ 8 (by decide) (by decide) rfl rfl, hs_s2 A _ 3 4 _ 12 (by decide) (by decide) rfl rfl, hs_s2 A _ 4 5 _ 16 (by decide) (by decide) rfl rfl, hs_s2 A _ 5 6 _ 20 (by decide) (by decide) rfl rfl, hs_s2 A _ 6 7 _ 24 (by decide) (by decide) rfl rfl, hs_s2 A _ 7 8 _ 28 (by decide) (by decide) rfl rfl, lp2_s, g_Image_headerSum_4, if_pos (by decide)]
theorem hs_all (A : sm_M) : f_Image_headerSum A = some (hsum (A 63)) := hs_all9 A 1091
theorem ms_all9 (B : sm_M) (w : Int32) (f : Nat) : sm_lp2 (g_Model_isGood_285 B w) (f + 1 + 1 + 1 + 1 + 1 + 1 + 1 + 1 + 1) 0 0 = if w = hsum (B 86) then some 1 else some 0 := by
  unfold hsum
  rw [ms_s B w _ 0 1 _ 0 (by decide) (by decide) rfl rfl, ms_s B w _ 1 2 _ 4 (by decide) (by decide) rfl rfl, ms_s B w _ 2 3 _ 8 (by decide) (by decide) rfl rfl, ms_s B w _ 3 4 _ 12 (by decide) (by decide) rfl rfl, ms_s B w _ 4 5 _ 16 (by decide) (by decide) rfl rfl, ms_s B w _ 5 6 _ 20 (by decide) (by decide) rfl rfl, ms_s B w _ 6 7 _ 24 (by decide) (by decide) rfl rfl, ms_s B w _ 7 8 _ 28 (by decide) (by decide) rfl rfl, lp2_s, g_Model_isGood_285, if_pos (by decide)]
theorem ms_all (B : sm_M) (w : Int32) : sm_lp2 (g_Model_isGood_285 B w) 1100 0 0 = if w = hsum (B 86) then some 1 else some 0 := ms_all9 B w 1091
theorem hsum_eq {f g : Nat → Int32} (h : ∀ j : Nat, j < 1000 → f j = g j) : hsum f = hsum g := by
  unfold hsum
  rw [w_eq h (i := 0) (by omega), w_eq h (i := 4) (by omega), w_eq h (i := 8) (by omega), w_eq h (i := 12) (by omega), w_eq h (i := 16) (by omega), w_eq h (i := 20) (by omega), w_eq h (i := 24) (by omega), w_eq h (i := 28) (by omega)]
/-- the length: class and reference -/
theorem c_len (a w : Int32) : f_Reader_isLength a w = some (if w < 0 then 0 else if (4096 : Int32) < w then 0 else if w - w / 4 * 4 = 0 then (if 0 < lg_cmp (a.toInt64 + w.toInt64 - 1) 2147483647 then 0 else 1) else 0) := by
  unfold f_Reader_isLength
  (repeat' split) <;> rfl
def gk (A B : sm_M) (k : Int32) : Prop := ∃ c : Int32, f_Reader_isAsItMust A k = some c ∧ (f_Model_isGood B k = if (4 : Int32) * k + 4 ≤ B 68 18 then some c else some 0) ∧ (c ≠ 0 → (k = 3 → 4 ≤ wd (B 86) 12 ∧ wd (B 86) 12 ≤ 4096 ∧ wd (B 86) 12 - wd (B 86) 12 / 4 * 4 = 0) ∧ (k = 6 → 0 ≤ wd (B 86) 24 ∧ wd (B 86) 24 ≤ 4096 ∧ wd (B 86) 24 - wd (B 86) 24 / 4 * 4 = 0))
theorem H_w {A B : sm_M} (him : ∀ j : Nat, j < 1000 → A 63 j = B 86 j) (k : Int32) (i : Nat) (h0 : 0 ≤ k.toInt) (h1 : k.toInt ≤ 8) (e : (4 * k.toInt).toNat = i) : f_Image_headerWord A k = some (wd (B 86) i) ∧ f_Model_wordAt B k = some (wd (B 86) i) := by
  rw [w_hd A k h0 (by omega), w_mo B k h0 (by omega), e, w_eq him (by omega)]
  exact ⟨rfl, rfl⟩
theorem g_0 {A B : sm_M} (him : ∀ j : Nat, j < 1000 → A 63 j = B 86 j) : gk A B 0 := by
  have H0 := H_w him 0 0 (by decide) (by decide) rfl
  have hs := hsum_eq him
  unfold gk f_Reader_isAsItMust f_Model_isGood
  simp only [H0.1, H0.2, i_b1]
  by_cases q : wd (B 86) 0 = 1263422796 <;> simp [q]
theorem g_1 {A B : sm_M} (him : ∀ j : Nat, j < 1000 → A 63 j = B 86 j) : gk A B 1 := by
  have H1 := H_w him 1 4 (by decide) (by decide) rfl
  have H2 := H_w him 2 8 (by decide) (by decide) rfl
  have H3 := H_w him 3 12 (by decide) (by decide) rfl
  have hs := hsum_eq him
  unfold gk f_Reader_isAsItMust f_Model_isGood
  simp only [H1.1, H1.2, H2.1, H2.2, H3.1, H3.2, i_b1, f_Reader_codeEnd]
  by_cases q : wd (B 86) 4 - wd (B 86) 4 / 4 * 4 = 0 <;> simp [q]
  by_cases q2 : wd (B 86) 4 < wd (B 86) 8 <;> simp [q2]
  by_cases q3 : 0 ≤ lg_cmp (wd (B 86) 4).toInt64 ((wd (B 86) 8).toInt64 + (wd (B 86) 12).toInt64) <;> simp [q3]
theorem ia_2 {A : sm_M} {x : Int32} (h : f_Image_headerWord A 2 = some x) : f_Reader_isAsItMust A 2 = if x < 0 then some 0 else if x - x / 4 * 4 = 0 then some 1 else some 0 := by
  rw [f_Reader_isAsItMust, h, i_b1, if_neg (by decide), if_neg (by decide), if_pos rfl]
theorem ib_2 {B : sm_M} {x : Int32} (h : f_Model_wordAt B 2 = some x) : f_Model_isGood B 2 = if (4 : Int32) * 2 + 4 ≤ B 68 18 then (if x - x / 4 * 4 = 0 then if x < 0 then some 0 else some 1 else some 0) else some 0 := by
  rw [f_Model_isGood, h, i_b1]
  have n0 : ¬ (2 : Int32) = 0 := by decide
  have n1 : ¬ (2 : Int32) = 1 := by decide
  by_cases q : (4 : Int32) * 2 + 4 ≤ B 68 18
  · rw [if_pos q, if_pos q, if_neg n0, if_neg n1, if_pos rfl]
  · rw [if_neg q, if_neg q]
theorem ic_2 (x : Int32) : ∃ c : Int32, (if x < 0 then some 0 else if x - x / 4 * 4 = 0 then some 1 else some 0) = some c ∧ (if x - x / 4 * 4 = 0 then if x < 0 then some 0 else some 1 else some 0) = some c := by
  by_cases q2 : x < 0
  · refine ⟨0, by rw [if_pos q2], ?_⟩
    by_cases q : x - x / 4 * 4 = 0
    · rw [if_pos q, if_pos q2]
    · rw [if_neg q]
  · by_cases q : x - x / 4 * 4 = 0
    · exact ⟨1, by rw [if_neg q2, if_pos q], by rw [if_pos q, if_neg q2]⟩
    · exact ⟨0, by rw [if_neg q2, if_neg q], by rw [if_neg q]⟩
theorem g_2 {A B : sm_M} (him : ∀ j : Nat, j < 1000 → A 63 j = B 86 j) : gk A B 2 := by
  have H2 := H_w him 2 8 (by decide) (by decide) rfl
  obtain ⟨c, e1, e2⟩ := ic_2 (wd (B 86) 8)
  have n3 : ¬ (2 : Int32) = 3 := by decide
  have n6 : ¬ (2 : Int32) = 6 := by decide
  exact ⟨c, (ia_2 H2.1).trans e1, by rw [ib_2 H2.2, e2], fun _ => ⟨fun h => absurd h n3, fun h => absurd h n6⟩⟩
theorem g_3 {A B : sm_M} (him : ∀ j : Nat, j < 1000 → A 63 j = B 86 j) : gk A B 3 := by
  have H2 := H_w him 2 8 (by decide) (by decide) rfl
  have H3 := H_w him 3 12 (by decide) (by decide) rfl
  have hs := hsum_eq him
  unfold gk f_Reader_isAsItMust f_Model_isGood
  simp only [H2.1, H2.2, H3.1, H3.2, i_b1, c_len, f_Model_within]
  by_cases q : wd (B 86) 12 - wd (B 86) 12 / 4 * 4 = 0 <;> by_cases q2 : wd (B 86) 12 < 4 <;> by_cases q3 : (4096 : Int32) < wd (B 86) 12 <;> by_cases q4 : 0 < lg_cmp ((wd (B 86) 8).toInt64 + (wd (B 86) 12).toInt64 - 1) 2147483647 <;> by_cases q5 : wd (B 86) 12 < 0 <;> simp [q, q2, q3, q4, q5, i_b1] <;> grind
theorem g_4 {A B : sm_M} (him : ∀ j : Nat, j < 1000 → A 63 j = B 86 j) : gk A B 4 := by
  have H4 := H_w him 4 16 (by decide) (by decide) rfl
  have hs := hsum_eq him
  unfold gk f_Reader_isAsItMust f_Model_isGood
  simp only [H4.1, H4.2, i_b1]
  by_cases q : wd (B 86) 16 = 36 <;> simp [q]
theorem g_5 {A B : sm_M} (him : ∀ j : Nat, j < 1000 → A 63 j = B 86 j) : gk A B 5 := by
  have H2 := H_w him 2 8 (by decide) (by decide) rfl
  have H3 := H_w him 3 12 (by decide) (by decide) rfl
  have H5 := H_w him 5 20 (by decide) (by decide) rfl
  have hs := hsum_eq him
  unfold gk f_Reader_isAsItMust f_Model_isGood
  simp only [H5.1, H5.2, H2.1, H2.2, H3.1, H3.2, i_b1, f_Reader_codeEnd]
  by_cases q : wd (B 86) 20 - wd (B 86) 20 / 64 * 64 = 0 <;> simp [q]
  by_cases q3 : lg_cmp (wd (B 86) 20).toInt64 ((wd (B 86) 8).toInt64 + (wd (B 86) 12).toInt64) < 0 <;> simp [q3]
theorem g_6 {A B : sm_M} (him : ∀ j : Nat, j < 1000 → A 63 j = B 86 j) : gk A B 6 := by
  have H5 := H_w him 5 20 (by decide) (by decide) rfl
  have H6 := H_w him 6 24 (by decide) (by decide) rfl
  have hs := hsum_eq him
  unfold gk f_Reader_isAsItMust f_Model_isGood
  simp only [H5.1, H5.2, H6.1, H6.2, i_b1, c_len, f_Model_within]
  by_cases q : wd (B 86) 24 - wd (B 86) 24 / 4 * 4 = 0 <;> by_cases q3 : (4096 : Int32) < wd (B 86) 24 <;> by_cases q4 : 0 < lg_cmp ((wd (B 86) 20).toInt64 + (wd (B 86) 24).toInt64 - 1) 2147483647 <;> by_cases q5 : wd (B 86) 24 < 0 <;> simp [q, q3, q4, q5, i_b1, i_bo0, i_bo1] <;> grind
theorem g_7 {A B : sm_M} (him : ∀ j : Nat, j < 1000 → A 63 j = B 86 j) : gk A B 7 := by
  have H3 := H_w him 3 12 (by decide) (by decide) rfl
  have H7 := H_w him 7 28 (by decide) (by decide) rfl
  have hs := hsum_eq him
  unfold gk f_Reader_isAsItMust f_Model_isGood
  simp only [H7.1, H7.2, H3.1, H3.2, i_b1]
  by_cases q : wd (B 86) 28 = 36 + wd (B 86) 12 <;> simp [q]
theorem g_8 {A B : sm_M} (him : ∀ j : Nat, j < 1000 → A 63 j = B 86 j) : gk A B 8 := by
  have H8 := H_w him 8 32 (by decide) (by decide) rfl
  have hs := hsum_eq him
  unfold gk f_Reader_isAsItMust f_Model_isGood
  simp only [H8.1, H8.2, i_b1, hs_all, ms_all, hs]
  by_cases q : wd (B 86) 32 = hsum (B 86) <;> simp [q]
