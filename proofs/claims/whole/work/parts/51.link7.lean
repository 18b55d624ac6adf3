theorem lea_c {A : sm_M} (h : ∀ o, o < 4 → NInv A o) : ∀ (f n : Nat) (w : Int32), w.toInt = n → n ≤ 16 → 16 - n < f → (∀ m, m < n → ¬ dbl A (Int32.ofNat m)) → (∃ m, m < 16 ∧ dbl A (Int32.ofNat m) ∧ (∀ m', m' < m → ¬ dbl A (Int32.ofNat m')) ∧ sm_lp1 (g_Linker_leastDoubledName_2 A) f w = some (Int32.ofNat m)) ∨ ((∀ m, m < 16 → ¬ dbl A (Int32.ofNat m)) ∧ sm_lp1 (g_Linker_leastDoubledName_2 A) f w = some (-1))
  | 0, n, w, _, _, h, _ => by omega
  | f + 1, n, w, hw, hn, hf, hb => by
    have L16 := L_16
    rw [lp1_s, g_Linker_leastDoubledName_2]
    by_cases c : n = 16
    · subst c
      rw [if_pos (by rw [t_le]; omega)]
      exact Or.inr ⟨hb, rfl⟩
    · have ei := t_inc (x := w) (by omega)
      have hw2 := of_t hw
      rw [if_neg (by rw [t_le]; omega), dub_c h, i_b1]
      by_cases q : dbl A w
      · rw [if_pos q, if_neg (by decide)]
        exact Or.inl ⟨n, by omega, by rw [hw2]; exact q, hb, by rw [hw2]⟩
      · rw [if_neg q, if_pos rfl]
        exact lea_c h f (n + 1) (w + 1) (by omega) (by omega) (by omega) (fun m hm => by
          by_cases z : m = n
          · rw [z, hw2]; exact q
          · exact hb m (by omega))
theorem lea_m {B : sm_M} (h : ∀ o, o < 4 → NInv B o) (x : Int32) : ∀ (f n : Nat) (w : Int32), w.toInt = n → n ≤ 16 → 16 - n < f → (∀ m, m < n → ¬ dbl B (Int32.ofNat m)) → (∃ m, m < 16 ∧ dbl B (Int32.ofNat m) ∧ (∀ m', m' < m → ¬ dbl B (Int32.ofNat m')) ∧ sm_lp1 (g_Model_refusal_2 B x) f w = some (-1000 - Int32.ofNat m, B)) ∨ ((∀ m, m < 16 → ¬ dbl B (Int32.ofNat m)) ∧ sm_lp1 (g_Model_refusal_2 B x) f w = sm_lp1 (g_Model_refusal_30 B x) 1100 0)
  | 0, n, w, _, _, h, _ => by omega
  | f + 1, n, w, hw, hn, hf, hb => by
    have L16 := L_16
    rw [lp1_s, g_Model_refusal_2]
    by_cases c : n = 16
    · subst c
      rw [if_pos (by rw [t_le]; omega)]
      exact Or.inr ⟨hb, rfl⟩
    · have ei := t_inc (x := w) (by omega)
      have hw2 := of_t hw
      rw [if_neg (by rw [t_le]; omega), twi_m h, i_b1]
      by_cases q : dbl B w
      · rw [if_pos q, if_neg (by decide)]
        exact Or.inl ⟨n, by omega, by rw [hw2]; exact q, hb, by rw [hw2]⟩
      · rw [if_neg q, if_pos rfl]
        exact lea_m h x f (n + 1) (w + 1) (by omega) (by omega) (by omega) (fun m hm => by
          by_cases z : m = n
          · rw [z, hw2]; exact q
          · exact hb m (by omega))
theorem dbl_cg {A B : sm_M} (h1 : A 71 = B 71) (h2 : A 72 = B 72) (h3 : A 75 = B 75) (x : Int32) : dbl A x = dbl B x := by unfold dbl cA cG; rw [h1, h2, h3]
theorem gO_cg {A B : sm_M} (h1 : A 71 = B 71) (h2 : A 72 = B 72) (h3 : A 75 = B 75) (x : Int32) : gO A x = gO B x := by
  unfold gO
  rw [dG_cg h1 h2 h3, dG_cg h1 h2 h3, dG_cg h1 h2 h3, dG_cg h1 h2 h3]
theorem nd_cg {A B : sm_M} (h1 : A 71 = B 71) (h2 : A 72 = B 72) (h3 : A 75 = B 75) (o : Nat) (x : Int32) : nd A o x = nd B o x := by
  unfold nd
  rw [gO_cg h1 h2 h3, dA_cg h1 h2]
theorem oV_cg {A B : sm_M} {ST : Nat → Int32} (h1 : A 73 = B 73) (h2 : A 74 = B 74) (y : Option Nat) : oV A ST y = oV B ST y := by
  cases y with
  | none => rfl
  | some i => exact vV_cg h1 h2 i
theorem vF_cg {A B : sm_M} {ST : Nat → Int32} (h : ∀ k, 71 ≤ k → k ≤ 81 → A k = B k) (f : Nat) : vF A ST f = vF B ST f := by
  unfold vF
  rw [oV_cg (h 73 (by omega) (by omega)) (h 74 (by omega) (by omega)), nd_cg (h 71 (by omega) (by omega)) (h 72 (by omega) (by omega)) (h 75 (by omega) (by omega)), h 80 (by omega) (by omega), h 81 (by omega) (by omega)]
theorem pF_cg {A B : sm_M} {ST : Nat → Int32} (h : ∀ k, 71 ≤ k → k ≤ 81 → A k = B k) (f : Nat) : pF A ST f = pF B ST f := by
  unfold pF
  rw [h 77 (by omega) (by omega), h 78 (by omega) (by omega)]
def atF (B : sm_M) (f : Nat) : Nat := 48 * (f / 16) + 24 * (B 77 f).toInt.toNat + (B 78 f).toInt.toNat
def wn (w a c : Int32) : Int32 := (w &&& (((1 : Int32) <<< (a &&& 31)) - (1 : Int32))) ||| (c <<< (a &&& 31))
theorem wn_c (w a c : Int32) : f_Fix_withNumber w a c = some (wn w a c) := rfl
theorem wn_m (w a c : Int32) : f_Model_with w a c = some (wn w a c) := rfl
def fixd (k w v p : Int32) : Int32 := if k = 0 then v else if k = 1 then wn w 12 ((v + 2048) >>> ((12 : Int32) &&& 31)) else if k = 2 then wn w 20 v else if k = 3 then wn w 20 ((v - p) / 2) else wn w 10 ((v - p) / 2)
theorem fix_c (k w v p : Int32) : f_Fix_fixed k w v p = some (fixd k w v p) := by
  unfold f_Fix_fixed fixd
  rw [fl_d, i_b1, wn_c, i_b1, wn_c, i_b1, wn_c, i_b1, wn_c, i_b1]
  split
  · rfl
  · split
    · rfl
    · split
      · rfl
      · split <;> rfl
theorem rea_2 (k d : Int32) : f_Fix_reaches k d = some 0 ∨ f_Fix_reaches k d = some 1 := by
  unfold f_Fix_reaches j_Fix_reaches_12 j_Fix_reaches_24 f_Mill_fitsSigned
  simp only [i_nm, i_b1i, i_b1]
  repeat (first | (exact Or.inl rfl) | (exact Or.inr rfl) | split)
theorem fit_m (a b : Int32) : f_Model_fits a b = f_Mill_fitsSigned a b := rfl
theorem mak_142 {B : sm_M} {y9 k w v a : Int32} {an : Nat} (ha : a.toInt = an) (h : an < 192) (p : Int32) (hy : y9 = v - p) : j_Model_makes_142 B y9 k w v a = some (1, sm_up B 82 an (fixd k w v p)) := by
  have a2 : a.toNatClampNeg = an := by rw [t_n]; omega
  unfold j_Model_makes_142 fixd
  rw [a2, wn_m, wn_m, wn_m, wn_m, i_b1, i_b1, i_b1, i_b1, hy]
  rw [i_gd (by omega) (by omega), i_gd (by omega) (by omega), i_gd (by omega) (by omega), i_gd (by omega) (by omega), i_gd (by omega) (by omega)]
  split
  · rfl
  · split
    · rfl
    · split
      · rfl
      · split <;> rfl
theorem mak_s {B : sm_M} {ST : Nat → Int32} (h : ∀ o, o < 4 → NInv B o) (hF : ∀ o, o < 4 → FInv B o) (h83 : ∀ i, i < 8 → B 83 i = ST i) {w : Int32} {f : Nat} (hw : w.toInt = f) (h64 : f < 64) (hn : nd B (f / 16) (B 80 f) ≠ none) : (f_Fix_reaches (B 79 f) (vF B ST f - pF B ST f) = some 0 → f_Model_makes B w = some (0, B)) ∧ (f_Fix_reaches (B 79 f) (vF B ST f - pF B ST f) = some 1 → f_Model_makes B w = some (1, sm_up B 82 (atF B f) (fixd (B 79 f) (B 82 (atF B f)) (vF B ST f) (pF B ST f)))) := by
  have w2 : w.toNatClampNeg = f := by rw [t_n]; omega
  have d1 := t_div16 w (by omega)
  have a := fs_t hF h64
  have b := fp_t hF h64
  have c := fk_t hF h64
  have L24 : (24 : Int32).toInt = 24 := rfl
  have L48 : (48 : Int32).toInt = 48 := rfl
  have e1 : (48 * (w / 16)).toInt = 48 * (f / 16) := by rw [t_mul] <;> rw [L48] <;> omega
  have e2 : (24 * B 77 f).toInt = 24 * (B 77 f).toInt := by rw [t_mul] <;> rw [L24] <;> omega
  have e3 : (48 * (w / 16) + 24 * B 77 f).toInt = 48 * (f / 16) + 24 * (B 77 f).toInt := by rw [t_add] <;> omega
  have e4 : (48 * (w / 16) + 24 * B 77 f + B 78 f).toInt = 48 * (f / 16) + 24 * (B 77 f).toInt + (B 78 f).toInt := by rw [t_add] <;> omega
  have e5 : (48 * (w / 16) + 24 * B 77 f + B 78 f).toNatClampNeg = atF B f := by rw [t_n, e4, atF]; omega
  have e5' : (48 * (w / 16) + 24 * B 77 f + B 78 f).toInt = (atF B f : Nat) := by rw [e4, atF]; omega
  have e5'' : atF B f < 192 := by rw [atF]; omega
  have e6 := t_2m (w := w / 16) (by omega) (by omega)
  have e7 : (2 * (w / 16) + B 77 f).toInt = 2 * (f / 16) + (B 77 f).toInt := by rw [t_add] <;> omega
  have e8 : (2 * (w / 16) + B 77 f).toNatClampNeg = 2 * (f / 16) + (B 77 f).toInt.toNat := by rw [t_n, e7]; omega
  obtain ⟨i, hi⟩ := Option.ne_none_iff_exists'.mp hn
  have hi32 := nd_lt h (by omega) hi
  rw [f_Model_makes, i_nm, i_gd (by omega) (by omega), i_gd (by omega) (by omega), i_nm, i_gd (by omega) (by omega), w2, i_gd (by omega) (by omega), i_gd (by omega) (by omega), i_nm, i_gd (by omega) (by omega), nee_m h (on := f / 16) (by omega) (by omega), i_b1, hi, oi, Nat.zero_add, m_val h h83 hi32, i_b1, i_gd (by omega) (by omega), i_nm, i_gd (by omega) (by omega), i_nm, i_gd (by omega) (by omega), i_nm, i_nm, e5, e8, h83 _ (by omega)]
  have ev : vV B ST i + B 81 f = vF B ST f := by rw [vF, hi]; rfl
  have ep : ST (2 * (f / 16) + (B 77 f).toInt.toNat) + 4 * B 78 f = pF B ST f := rfl
  rw [ev, ep]
  generalize vF B ST f = v at *
  generalize pF B ST f = p at *
  have mk := mak_142 (B := B) (k := B 79 f) (w := B 82 (atF B f)) (v := v) e5' e5'' p rfl
  have kk : B 79 f = 0 ∨ B 79 f = 1 ∨ B 79 f = 2 ∨ B 79 f = 3 ∨ B 79 f = 4 := by
    have L0 := t_0
    have L1 := t_1
    have L2 := L_2
    have L3 := L_3
    have L4 := L_4
    rcases (show (B 79 f).toInt = 0 ∨ (B 79 f).toInt = 1 ∨ (B 79 f).toInt = 2 ∨ (B 79 f).toInt = 3 ∨ (B 79 f).toInt = 4 by omega) with q | q | q | q | q
    · exact Or.inl (Int32.toInt_inj.mp q)
    · exact Or.inr (Or.inl (Int32.toInt_inj.mp q))
    · exact Or.inr (Or.inr (Or.inl (Int32.toInt_inj.mp q)))
    · exact Or.inr (Or.inr (Or.inr (Or.inl (Int32.toInt_inj.mp q))))
    · exact Or.inr (Or.inr (Or.inr (Or.inr (Int32.toInt_inj.mp q))))
  rcases kk with q | q | q | q | q
  · rw [q] at mk ⊢
    rw [if_pos (by decide), mk]
    exact ⟨fun z => by simp [f_Fix_reaches] at z, fun _ => rfl⟩
  · rw [q] at mk ⊢
    rw [if_pos (by decide), mk]
    exact ⟨fun z => by simp [f_Fix_reaches] at z, fun _ => rfl⟩
  · rw [q] at mk ⊢
    rw [if_pos (by decide), mk]
    exact ⟨fun z => by simp [f_Fix_reaches] at z, fun _ => rfl⟩
  · rw [q] at mk ⊢
    rw [if_neg (by decide), if_pos rfl, f_Fix_reaches, if_pos rfl, j_Fix_reaches_12, if_pos rfl, j_Fix_reaches_24, j_Model_makes_134, fit_m, mk, show (32 : Int32) - 20 = 12 from rfl]
    by_cases z1 : (v - p) - (v - p) / 2 * 2 = 0
    · rw [if_pos z1, if_pos z1]
      cases z2 : f_Mill_fitsSigned ((v - p) / 2) 12 with
      | none => exact ⟨fun z => by simp [sm_b1] at z, fun z => by simp [sm_b1] at z⟩
      | some r =>
        rw [i_b1, i_b1]
        by_cases z3 : r = 0
        · rw [if_pos z3, if_pos z3]; exact ⟨fun _ => rfl, fun z => by simp at z⟩
        · rw [if_neg z3, if_neg z3]; exact ⟨fun z => by simp at z, fun _ => rfl⟩
    · rw [if_neg z1, if_neg z1]
      exact ⟨fun _ => rfl, fun z => by simp at z⟩
  · rw [q] at mk ⊢
    rw [if_neg (show ¬ (4 : Int32) ≤ 2 by decide), if_neg (show ¬ (4 : Int32) = 3 by decide), f_Fix_reaches, if_neg (show ¬ (4 : Int32) = 3 by decide), if_pos rfl, j_Fix_reaches_12, if_neg (show ¬ (4 : Int32) = 3 by decide), j_Fix_reaches_24, j_Model_makes_134, fit_m, mk, show (32 : Int32) - 10 = 22 from rfl]
    by_cases z1 : (v - p) - (v - p) / 2 * 2 = 0
    · rw [if_pos z1, if_pos z1]
      cases z2 : f_Mill_fitsSigned ((v - p) / 2) 22 with
      | none => exact ⟨fun z => by simp [sm_b1] at z, fun z => by simp [sm_b1] at z⟩
      | some r =>
        rw [i_b1, i_b1]
        by_cases z3 : r = 0
        · rw [if_pos z3, if_pos z3]; exact ⟨fun _ => rfl, fun z => by simp at z⟩
        · rw [if_neg z3, if_neg z3]; exact ⟨fun z => by simp at z, fun _ => rfl⟩
    · rw [if_neg z1, if_neg z1]
      exact ⟨fun _ => rfl, fun z => by simp at z⟩
