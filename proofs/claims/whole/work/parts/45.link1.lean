theorem lp3_s {A B C R : Type} (f : (A → B → C → Option R) → A → B → C → Option R) (n : Nat) (a : A) (b : B) (c : C) : sm_lp3 f (n + 1) a b c = f (sm_lp3 f n) a b c := rfl
def sm_pt (M : sm_M) (k : Nat) (g : Nat → Int32) : sm_M := fun a => if a = k then g else M a
theorem pt_at (M : sm_M) (k : Nat) (g : Nat → Int32) (a : Nat) : sm_pt M k g a = if a = k then g else M a := rfl
theorem pt_of {M : sm_M} {k : Nat} {g : Nat → Int32} : sm_pt M k g k = g := by rw [pt_at, if_pos rfl]
theorem pt_ne {M : sm_M} {k a : Nat} {g : Nat → Int32} (h : a ≠ k) : sm_pt M k g a = M a := by rw [pt_at, if_neg h]
theorem pt_pt (M : sm_M) (k : Nat) (g h : Nat → Int32) : sm_pt (sm_pt M k g) k h = sm_pt M k h := by
  funext a; simp only [pt_at]; split <;> rfl
theorem pt_self (M : sm_M) (k : Nat) : sm_pt M k (M k) = M := by
  funext a; rw [pt_at]; split
  · rename_i h; rw [h]
  · rfl
theorem up_pt (M : sm_M) (k j : Nat) (x : Int32) : sm_up M k j x = sm_pt M k (fun i => if i = j then x else M k i) := by
  funext a b
  rw [i_up, pt_at]
  by_cases h : a = k
  · subst h; simp
  · simp [h]
def bt : Nat → Int32 → Int32
  | 0, w => w &&& (255 : Int32)
  | 1, w => (w >>> ((8 : Int32) &&& 31)) &&& (255 : Int32)
  | 2, w => (w >>> ((16 : Int32) &&& 31)) &&& (255 : Int32)
  | _, w => (w >>> ((24 : Int32) &&& 31)) &&& (255 : Int32)
def ws (f : Nat → Int32) (i : Nat) (w : Int32) : Nat → Int32 := fun j => if j = i then bt 0 w else if j = i + 1 then bt 1 w else if j = i + 2 then bt 2 w else if j = i + 3 then bt 3 w else f j
theorem ws_at (f : Nat → Int32) (i i' c : Nat) (w : Int32) (hc : c < 4) : ws f (4 * i) w (4 * i' + c) = if i = i' then bt c w else f (4 * i' + c) := by
  unfold ws
  by_cases h : i = i'
  · subst h
    rw [if_pos rfl]
    have : c = 0 ∨ c = 1 ∨ c = 2 ∨ c = 3 := by omega
    rcases this with h | h | h | h <;> subst h
    · rw [if_pos (by omega)]
    · rw [if_neg (by omega), if_pos rfl]
    · rw [if_neg (by omega), if_neg (by omega), if_pos rfl]
    · rw [if_neg (by omega), if_neg (by omega), if_neg (by omega), if_pos rfl]
  · rw [if_neg h, if_neg (by omega), if_neg (by omega), if_neg (by omega), if_neg (by omega)]
theorem ws_off (f : Nat → Int32) (i j : Nat) (w : Int32) (h : i + 4 ≤ j) : ws f i w j = f j := by
  unfold ws
  rw [if_neg (by omega), if_neg (by omega), if_neg (by omega), if_neg (by omega)]
theorem sb_bv (x : BitVec 32) : ((x &&& 255#32) ||| ((x.sshiftRight 8 &&& 255#32) <<< 8) ||| ((x.sshiftRight 16 &&& 255#32) <<< 16) ||| ((x.sshiftRight 24 &&& 255#32) <<< 24)) = x := by
  apply BitVec.eq_of_getElem_eq
  intro i h
  have : i = 0 ∨ i = 1 ∨ i = 2 ∨ i = 3 ∨ i = 4 ∨ i = 5 ∨ i = 6 ∨ i = 7 ∨ i = 8 ∨ i = 9 ∨ i = 10 ∨ i = 11 ∨ i = 12 ∨ i = 13 ∨ i = 14 ∨ i = 15 ∨ i = 16 ∨ i = 17 ∨ i = 18 ∨ i = 19 ∨ i = 20 ∨ i = 21 ∨ i = 22 ∨ i = 23 ∨ i = 24 ∨ i = 25 ∨ i = 26 ∨ i = 27 ∨ i = 28 ∨ i = 29 ∨ i = 30 ∨ i = 31 := by omega
  rcases this with h | h | h | h | h | h | h | h | h | h | h | h | h | h | h | h | h | h | h | h | h | h | h | h | h | h | h | h | h | h | h | h <;> subst h <;> simp [BitVec.getElem_sshiftRight, BitVec.getElem_shiftLeft]
theorem sb_i (w : Int32) : ((bt 0 w ||| (bt 1 w <<< ((8 : Int32) &&& 31))) ||| (bt 2 w <<< ((16 : Int32) &&& 31))) ||| (bt 3 w <<< ((24 : Int32) &&& 31)) = w := by
  apply Int32.toBitVec_inj.mp
  have h := sb_bv w.toBitVec
  simp only [bt, Int32.toBitVec_or, Int32.toBitVec_and, Int32.toBitVec_shiftLeft, Int32.toBitVec_shiftRight]
  exact h
theorem wd_bt {f : Nat → Int32} {i : Nat} {w : Int32} (h : ∀ c, c < 4 → f (i + c) = bt c w) : wd f i = w := by
  have h0 : f i = bt 0 w := h 0 (by omega)
  rw [wd, h0, h 1 (by omega), h 2 (by omega), h 3 (by omega)]
  exact sb_i w
theorem sr_0 (w : Int32) : w >>> (((8 : Int32) * 0) &&& 31) = w := by
  apply Int32.toBitVec_inj.mp
  rw [Int32.toBitVec_shiftRight]
  exact BitVec.sshiftRight_zero
theorem fl_d (x : Int32) : f_Math_floorDiv x 4096 = some (x >>> ((12 : Int32) &&& 31)) := by
  have s : (x >>> ((12 : Int32) &&& 31)).toInt = x.toInt / 4096 := by
    show (x >>> ((12 : Int32) &&& 31)).toBitVec.toInt = _
    rw [Int32.toBitVec_shiftRight]
    show (x.toBitVec.sshiftRight 12).toInt = _
    rw [BitVec.toInt_sshiftRight, Int.shiftRight_eq_div_pow]
    rfl
  have g : (0 ≤ x ^^^ (4096 : Int32)) ↔ 0 ≤ x.toInt := by
    rw [t_le, t_0]
    have e : (x ^^^ (4096 : Int32)).toBitVec.msb = x.toBitVec.msb := by
      rw [Int32.toBitVec_xor, BitVec.msb_xor]
      show (x.toBitVec.msb ^^ false) = _
      simp
    rw [BitVec.msb_eq_toInt, BitVec.msb_eq_toInt] at e
    have e1 : (x ^^^ (4096 : Int32)).toBitVec.toInt = (x ^^^ (4096 : Int32)).toInt := rfl
    have e2 : x.toBitVec.toInt = x.toInt := rfl
    rw [e1, e2] at e
    have := decide_eq_decide.mp e
    omega
  have b1 := Int32.toInt_lt x
  have b2 := Int32.le_toInt x
  have k : (4096 : Int32).toInt = 4096 := rfl
  have sg : Int.sign 4096 = 1 := rfl
  have d : (x / 4096).toInt = x.toInt.tdiv 4096 := by
    rw [Int32.toInt_div, k, Int.bmod_def]
    have := Int.tdiv_eq_ediv (a := x.toInt) (b := 4096)
    omega
  have td := Int.tdiv_eq_ediv (a := x.toInt) (b := 4096)
  rw [f_Math_floorDiv, sm_nzd, if_neg (by decide), i_nm]
  by_cases h : 0 ≤ x.toInt
  · rw [if_pos (g.mpr h)]
    congr 1
    apply Int32.toInt_inj.mp
    rw [d, s, Int.tdiv_eq_ediv_of_nonneg h]
  · rw [if_neg (fun z => h (g.mp z))]
    have m : (x / 4096 * 4096).toInt = x.toInt.tdiv 4096 * 4096 := by
      rw [Int32.toInt_mul, d, k, Int.bmod_def]
      omega
    by_cases h2 : x / 4096 * 4096 = x
    · rw [if_pos h2]
      congr 1
      apply Int32.toInt_inj.mp
      rw [d, s]
      have := congrArg Int32.toInt h2
      rw [m] at this
      omega
    · rw [if_neg h2]
      congr 1
      apply Int32.toInt_inj.mp
      have h3 : ¬ x.toInt.tdiv 4096 * 4096 = x.toInt := fun z => h2 (Int32.toInt_inj.mp (m.trans z))
      rw [t_sub, d, s, t_1] <;> (try rw [d, t_1]) <;> omega
theorem sw_c (A : sm_M) (i : Int32) (w : Int32) (h0 : 0 ≤ i.toInt) (h1 : i.toInt ≤ 996) : f_Image_setWord A i w = some (sm_pt A 63 (ws (A 63) i.toInt.toNat w)) := by
  have e1 : (i + 1).toInt = i.toInt + 1 := t_inc (by omega)
  have e2 : (i + 2).toInt = i.toInt + 2 := by rw [t_add, L_2] <;> rw [L_2] <;> omega
  have e3 : (i + 3).toInt = i.toInt + 3 := by rw [t_add, L_3] <;> rw [L_3] <;> omega
  rw [f_Image_setWord, i_gd h0 (by omega), i_nm, i_gd (by omega) (by omega), i_nm, i_gd (by omega) (by omega), i_nm, i_gd (by omega) (by omega), i_nm]
  congr 1
  funext a b
  simp only [i_up, pt_at, t_n, e1, e2, e3]
  rw [show (i.toInt + 1).toNat = i.toInt.toNat + 1 by omega, show (i.toInt + 2).toNat = i.toInt.toNat + 2 by omega, show (i.toInt + 3).toNat = i.toInt.toNat + 3 by omega]
  by_cases ha : a = 63
  · subst ha
    simp only [true_and, if_true, ws, bt]
    grind
  · simp [ha]
theorem sw_m (B : sm_M) (w : Int32) (h0 : 0 ≤ (B 68 18).toInt) (h1 : (B 68 18).toInt ≤ 996) : f_Model_bytes B w = some (sm_up (sm_pt B 86 (ws (B 86) (B 68 18).toInt.toNat w)) 68 18 (B 68 18 + 4)) := by
  have e1 : (B 68 18 + 1).toInt = (B 68 18).toInt + 1 := t_inc (by omega)
  have e2 : (B 68 18 + 1 + 1).toInt = (B 68 18).toInt + 2 := by rw [t_inc] <;> omega
  have e3 : (B 68 18 + 1 + 1 + 1).toInt = (B 68 18).toInt + 3 := by rw [t_inc] <;> omega
  have e4 : B 68 18 + 1 + 1 + 1 + 1 = B 68 18 + 4 := by grind
  have r : ∀ (M' : sm_M) (j : Nat) (x y : Int32), (sm_up (sm_up M' 86 j x) 68 18 y) 68 18 = y := fun M' j x y => by rw [i_up, if_pos ⟨rfl, rfl⟩]
  have r2 : ∀ (M' : sm_M) (j : Nat) (x : Int32), (sm_up M' 86 j x) 68 18 = M' 68 18 := fun M' j x => by rw [i_up, if_neg (by omega)]
  rw [f_Model_bytes, show (1100 : Nat) = 1095 + 1 + 1 + 1 + 1 + 1 from rfl]
  rw [lp2_s, g_Model_bytes_2, if_neg (by decide), i_gd h0 (by omega), i_nm, i_nm, r2]
  rw [lp2_s, g_Model_bytes_2, if_neg (by decide), r, i_gd (by omega) (by omega), i_nm, i_nm, r2, r]
  rw [lp2_s, g_Model_bytes_2, if_neg (by decide), r, i_gd (by omega) (by omega), i_nm, i_nm, r2, r]
  rw [lp2_s, g_Model_bytes_2, if_neg (by decide), r, i_gd (by omega) (by omega), i_nm, i_nm, r2, r]
  rw [lp2_s, g_Model_bytes_2, if_pos (by decide), e4, sr_0]
  congr 1
  funext a b
  simp only [i_up, pt_at, t_n, e1, e2, e3]
  rw [show ((B 68 18).toInt + 1).toNat = (B 68 18).toInt.toNat + 1 by omega, show ((B 68 18).toInt + 2).toNat = (B 68 18).toInt.toNat + 2 by omega, show ((B 68 18).toInt + 3).toNat = (B 68 18).toInt.toNat + 3 by omega]
  rw [show (8 : Int32) * (0 + 1) = 8 from rfl, show (8 : Int32) * (0 + 1 + 1) = 16 from rfl, show (8 : Int32) * (0 + 1 + 1 + 1) = 24 from rfl]
  by_cases ha : a = 86
  · subst ha
    simp only [if_true, true_and, ws, bt]
    grind
  · simp only [ha, false_and, if_false]
    grind
