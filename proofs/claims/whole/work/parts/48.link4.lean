theorem L_8 : (8 : Int32).toInt = 8 := rfl
theorem L_16 : (16 : Int32).toInt = 16 := rfl
theorem t_mul {x y : Int32} (h1 : -2147483648 ≤ x.toInt * y.toInt) (h2 : x.toInt * y.toInt < 2147483648) : (x * y).toInt = x.toInt * y.toInt := by
  rw [Int32.toInt_mul, Int.bmod_def]; omega
theorem t_8m {w : Int32} (h1 : 0 ≤ w.toInt) (h2 : w.toInt ≤ 1000) : (8 * w).toInt = 8 * w.toInt := by
  rw [t_mul] <;> rw [L_8] <;> omega
abbrev dbl (B : sm_M) (x : Int32) : Prop := (1 < cA B 0 x ∨ 1 < cA B 1 x ∨ 1 < cA B 2 x ∨ 1 < cA B 3 x) ∨ 1 < cG B 0 x + cG B 1 x + cG B 2 x + cG B 3 x
theorem if_cg {P Q : Prop} [Decidable P] [Decidable Q] (h : P ↔ Q) : (if P then (1 : Int32) else 0) = if Q then 1 else 0 := by
  by_cases q : Q
  · rw [if_pos q, if_pos (h.mpr q)]
  · rw [if_neg q, if_neg (fun z => q (h.mp z))]
theorem if_y {P : Prop} [Decidable P] : ((if P then (0 : Int32) else 1) = 0) ↔ P := by
  by_cases q : P
  · rw [if_pos q]; simp [q]
  · rw [if_neg q]; simp [q]
theorem cGA (B : sm_M) (o : Nat) (x : Int32) : cG B o x ≤ cA B o x := cn_mono (fun d h => by simp only [pA, pG, decide_eq_true_eq] at *; exact h.1)
theorem cA8 {B : sm_M} {o : Nat} (h : NInv B o) (x : Int32) : cA B o x ≤ 8 := Nat.le_trans cn_le (nN_t h).2
theorem cG0 (B : sm_M) (o : Nat) (x : Int32) : cG B o x = 0 ↔ dG B o x = none := cn_0
theorem dG_lt {B : sm_M} {o : Nat} (h : NInv B o) {x : Int32} {d : Nat} (e : dG B o x = some d) : d < 8 := by
  have := (fd_some e).1
  have := (nN_t h).2
  omega
theorem dA_lt {B : sm_M} {o : Nat} (h : NInv B o) {x : Int32} {d : Nat} (e : dA B o x = some d) : d < 8 := by
  have := (fd_some e).1
  have := (nN_t h).2
  omega
theorem dub_s {A : sm_M} {o : Nat} (h : NInv A o) (ho : o < 4) (x : Int32) (rec : Int32 → Int32 → Option Int32) (w c : Int32) (hw : w.toInt = o) : g_Linker_isDoubled_4 A x rec w c = if cA A o x ≤ 1 then (if cG A o x = 0 then rec (w + 1) c else rec (w + 1) (c + 1)) else some 1 := by
  have L4 := L_4
  have hw2 : w.toNatClampNeg = o := by rw [t_n]; omega
  have a8 := cA8 h x
  rw [g_Linker_isDoubled_4, if_neg (by rw [t_le]; omega), i_gd (by omega) (by omega), i_nm, hw2, fc_tim h, i_b1]
  by_cases c1 : cA A o x ≤ 1
  · rw [if_pos (by rw [t_le, t_of (by omega), t_1]; omega), if_pos c1, i_gd (by omega) (by omega), i_nm, fc_glo h, i_b1]
    by_cases c2 : cG A o x = 0
    · rw [if_pos c2, if_pos ((oi_m1 (fun d e => by have := dG_lt h e; omega)).mpr ((cG0 A o x).mp c2))]
    · rw [if_neg c2, if_neg (fun z => c2 ((cG0 A o x).mpr ((oi_m1 (fun d e => by have := dG_lt h e; omega)).mp z)))]
  · rw [if_neg (by rw [t_le, t_of (by omega), t_1]; omega), if_neg c1]
theorem dub_c {A : sm_M} (h : ∀ o, o < 4 → NInv A o) (x : Int32) : f_Linker_isDoubled A x = some (if dbl A x then 1 else 0) := by
  have ga := cGA A
  rw [f_Linker_isDoubled, show (1100 : Nat) = 1095 + 1 + 1 + 1 + 1 + 1 from rfl]
  have k4 : ∀ c : Int32, sm_lp2 (g_Linker_isDoubled_4 A x) (1095 + 1) (0 + 1 + 1 + 1 + 1) c = some (if 1 < c.toInt then 1 else 0) := fun c => by
    rw [lp2_s, g_Linker_isDoubled_4, if_pos (by decide)]
    by_cases q : c ≤ 1
    · rw [if_pos q, if_neg (by rw [t_le, t_1] at q; omega)]
    · rw [if_neg q, if_pos (by rw [t_le, t_1] at q; omega)]
  have k3 : ∀ c : Int32, 0 ≤ c.toInt → c.toInt ≤ 3 → sm_lp2 (g_Linker_isDoubled_4 A x) (1095 + 1 + 1) (0 + 1 + 1 + 1) c = some (if 1 < cA A 3 x ∨ 1 < c.toInt + cG A 3 x then 1 else 0) := fun c b1 b2 => by
    have e := t_inc (x := c) (by omega)
    have := ga 3 x
    rw [lp2_s, dub_s (h 3 (by omega)) (by omega) x _ _ c rfl, k4, k4, e]
    split
    · split
      · congr 1; exact if_cg (by omega)
      · congr 1; exact if_cg (by omega)
    · rw [if_pos (by omega)]
  have k2 : ∀ c : Int32, 0 ≤ c.toInt → c.toInt ≤ 2 → sm_lp2 (g_Linker_isDoubled_4 A x) (1095 + 1 + 1 + 1) (0 + 1 + 1) c = some (if (1 < cA A 2 x ∨ 1 < cA A 3 x) ∨ 1 < c.toInt + cG A 2 x + cG A 3 x then 1 else 0) := fun c b1 b2 => by
    have e := t_inc (x := c) (by omega)
    have := ga 2 x
    rw [lp2_s, dub_s (h 2 (by omega)) (by omega) x _ _ c rfl, k3 c (by omega) (by omega), k3 (c + 1) (by omega) (by omega), e]
    split
    · split
      · congr 1; exact if_cg (by omega)
      · congr 1; exact if_cg (by omega)
    · rw [if_pos (by omega)]
  have k1 : ∀ c : Int32, 0 ≤ c.toInt → c.toInt ≤ 1 → sm_lp2 (g_Linker_isDoubled_4 A x) (1095 + 1 + 1 + 1 + 1) (0 + 1) c = some (if (1 < cA A 1 x ∨ 1 < cA A 2 x ∨ 1 < cA A 3 x) ∨ 1 < c.toInt + cG A 1 x + cG A 2 x + cG A 3 x then 1 else 0) := fun c b1 b2 => by
    have e := t_inc (x := c) (by omega)
    have := ga 1 x
    rw [lp2_s, dub_s (h 1 (by omega)) (by omega) x _ _ c rfl, k2 c (by omega) (by omega), k2 (c + 1) (by omega) (by omega), e]
    split
    · split
      · congr 1; exact if_cg (by omega)
      · congr 1; exact if_cg (by omega)
    · rw [if_pos (by omega)]
  have := ga 0 x
  rw [lp2_s, dub_s (h 0 (by omega)) (by omega) x _ _ 0 rfl, k1 0 (by decide) (by decide), k1 (0 + 1) (by decide) (by decide), t_0, show ((0 : Int32) + 1).toInt = 1 from rfl]
  split
  · split
    · congr 1; exact if_cg (by unfold dbl; omega)
    · congr 1; exact if_cg (by unfold dbl; omega)
  · rw [if_pos (by unfold dbl; omega)]
theorem twi_19 {B : sm_M} {o : Nat} (h : NInv B o) (ho : o < 4) (x y w4 : Int32) (hw4 : w4.toInt = o) (g0 : Nat) (hg0 : g0 ≤ 100) (rec7 : Int32 → Int32 → Int32 → Option Int32) : ∀ (f i : Nat) (w n g : Int32), w.toInt = i → i ≤ nN (B 71) o → n.toInt = cn (pA (B 72) o x) i → g.toInt = g0 + cn (pG (B 72) (B 75) o x) i → nN (B 71) o - i < f → sm_lp3 (g_Model_twice_19 B w4 y x rec7) f w n g = rec7 (w4 + 1) (if y = 0 ∧ cA B o x ≤ 1 then 0 else 1) (Int32.ofNat (g0 + cG B o x))
  | 0, i, w, n, g, _, _, _, _, h => by omega
  | f + 1, i, w, n, g, hw, hi, hn, hg, hf => by
    have t := nN_t h
    have hw2 : w4.toNatClampNeg = o := by rw [t_n]; omega
    have b1 := cn_le (p := pA (B 72) o x) (n := i)
    have b2 := cn_le (p := pG (B 72) (B 75) o x) (n := i)
    rw [lp3_s, g_Model_twice_19, i_gd (by omega) (by omega), hw2]
    by_cases c : B 71 o ≤ w
    · rw [if_pos c]
      rw [t_le] at c
      have hin : i = nN (B 71) o := by omega
      have hg2 : g = Int32.ofNat (g0 + cG B o x) := by rw [cG, ← hin]; exact (of_t (by omega)).symm
      rw [hg2]
      by_cases hy : y = 0
      · rw [if_pos hy]
        by_cases q : n ≤ 1
        · rw [if_pos q, if_pos ⟨hy, by rw [t_le, t_1] at q; rw [cA, ← hin]; omega⟩]
        · rw [if_neg q, if_neg (fun z => q (by rw [t_le, t_1]; have := z.2; rw [cA, ← hin] at this; omega))]
      · rw [if_neg hy, if_neg (fun z => hy z.1)]
    · rw [if_neg c]
      rw [t_le] at c
      have e8 : (8 * w4).toInt = 8 * o := by rw [t_8m (by omega) (by omega), hw4]
      have e : (8 * w4 + w).toInt = 8 * o + i := by have := t_add (x := 8 * w4) (y := w) (by omega) (by omega); omega
      have ei := t_inc (x := w) (by omega)
      have en := t_inc (x := n) (by omega)
      have eg := t_inc (x := g) (by omega)
      have n0 : n + 0 = n := by grind
      have gz : g + 0 = g := by grind
      rw [i_gd (by omega) (by omega), t_n, e, show ((8 * o + i : Int)).toNat = 8 * o + i by omega]
      by_cases q : B 72 (8 * o + i) = x
      · rw [if_pos q, j_Model_twice_53, if_neg (by decide), j_Model_twice_67, i_nm, if_neg (by decide), i_gd (by omega) (by omega), t_n, e, show ((8 * o + i : Int)).toNat = 8 * o + i by omega]
        by_cases q2 : B 75 (8 * o + i) = 0
        · rw [if_pos q2, i_nm, gz]
          exact twi_19 h ho x y w4 hw4 g0 hg0 rec7 f (i + 1) (w + 1) (n + 1) g (by omega) (by omega) (by rw [cn, if_pos (by simp [pA, q])]; omega) (by rw [cn, if_neg (by simp [pG, q2])]; omega) (by omega)
        · rw [if_neg q2, i_nm]
          exact twi_19 h ho x y w4 hw4 g0 hg0 rec7 f (i + 1) (w + 1) (n + 1) (g + 1) (by omega) (by omega) (by rw [cn, if_pos (by simp [pA, q])]; omega) (by rw [cn, if_pos (by simp [pG, q, q2])]; omega) (by omega)
      · rw [if_neg q, j_Model_twice_53, if_pos rfl, j_Model_twice_67, i_nm, if_pos rfl, i_nm, n0, gz]
        exact twi_19 h ho x y w4 hw4 g0 hg0 rec7 f (i + 1) (w + 1) n g (by omega) (by omega) (by rw [cn, if_neg (by simp [pA, q])]; omega) (by rw [cn, if_neg (by simp [pG, q])]; omega) (by omega)
theorem twi_s {B : sm_M} {o : Nat} (h : NInv B o) (ho : o < 4) (x : Int32) (rec : Int32 → Int32 → Int32 → Option Int32) (w y : Int32) (c : Nat) (hc : c ≤ 100) (hw : w.toInt = o) : g_Model_twice_7 B x rec w y (Int32.ofNat c) = rec (w + 1) (if y = 0 ∧ cA B o x ≤ 1 then 0 else 1) (Int32.ofNat (c + cG B o x)) := by
  have L4 := L_4
  rw [g_Model_twice_7, if_neg (by rw [t_le]; omega)]
  exact twi_19 h ho x y w hw c hc rec 1100 0 0 0 _ rfl (by omega) rfl (by rw [t_of (by omega)]; rfl) (by have := (nN_t h).2; omega)
theorem twi_m {B : sm_M} (h : ∀ o, o < 4 → NInv B o) (x : Int32) : f_Model_twice B x = some (if dbl B x then 1 else 0) := by
  have a8 : ∀ o, o < 4 → cG B o x ≤ 8 := fun o ho => Nat.le_trans (cGA B o x) (cA8 (h o ho) x)
  have y0 := a8 0 (by omega)
  have y1 := a8 1 (by omega)
  have y2 := a8 2 (by omega)
  have y3 := a8 3 (by omega)
  have s := twi_s (h 0 (by omega)) (by omega) x (sm_lp3 (g_Model_twice_7 B x) (1095 + 1 + 1 + 1 + 1)) 0 0 0 (by omega) rfl
  rw [f_Model_twice, show (1100 : Nat) = 1095 + 1 + 1 + 1 + 1 + 1 from rfl, lp3_s]
  refine Eq.trans s ?_
  rw [lp3_s, twi_s (h 1 (by omega)) (by omega) x _ _ _ _ (by omega) rfl, lp3_s, twi_s (h 2 (by omega)) (by omega) x _ _ _ _ (by omega) rfl, lp3_s, twi_s (h 3 (by omega)) (by omega) x _ _ _ _ (by omega) rfl, lp3_s, g_Model_twice_7, if_pos (by decide)]
  have tt : (Int32.ofNat (0 + cG B 0 x + cG B 1 x + cG B 2 x + cG B 3 x)).toInt = ((0 + cG B 0 x + cG B 1 x + cG B 2 x + cG B 3 x : Nat) : Int) := t_of (by omega)
  simp only [if_y]
  by_cases q : dbl B x
  · rw [if_pos q]
    unfold dbl at q
    by_cases q1 : ((True ∧ cA B 0 x ≤ 1) ∧ cA B 1 x ≤ 1) ∧ cA B 2 x ≤ 1
    · by_cases q2 : cA B 3 x ≤ 1
      · rw [if_pos ⟨q1, q2⟩, if_neg (by rw [t_le, tt, t_1]; omega)]
      · rw [if_neg (fun z => q2 z.2)]
    · rw [if_neg (fun z => q1 z.1)]
  · rw [if_neg q]
    unfold dbl at q
    rw [if_pos ⟨⟨⟨⟨trivial, by omega⟩, by omega⟩, by omega⟩, by omega⟩, if_pos (by rw [t_le, tt, t_1]; omega)]
