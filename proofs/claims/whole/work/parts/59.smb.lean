theorem m0_n {k j : Nat} (h : k ≠ 61) : sm_m0 k j = 0 := by
  unfold sm_m0 sm_mLinker
  simp only [i_up]
  repeat rw [if_neg (by omega)]
theorem m0_v {j : Nat} (h : j < 16) : sm_m0 61 j = -1 := by
  unfold sm_m0 sm_mLinker
  simp only [i_up]
  rcases (show j = 0 ∨ j = 1 ∨ j = 2 ∨ j = 3 ∨ j = 4 ∨ j = 5 ∨ j = 6 ∨ j = 7 ∨ j = 8 ∨ j = 9 ∨ j = 10 ∨ j = 11 ∨ j = 12 ∨ j = 13 ∨ j = 14 ∨ j = 15 by omega) with h | h | h | h | h | h | h | h | h | h | h | h | h | h | h | h <;> subst h <;> simp
theorem inv_0 : Inv 0 sm_m0 := by
  have z0 : (0 : Int32).toInt = 0 := rfl
  refine ⟨fun o ho => ⟨⟨?_, ?_, ?_⟩, ⟨?_, ?_, ?_⟩, ⟨?_, ?_, ?_, ?_, ?_, ?_, ?_, ?_, ?_, ?_⟩, ⟨?_, ?_, ?_, ?_, ?_, ?_, ?_, ?_, ?_, ?_, ?_, ?_⟩, ⟨?_, ?_⟩⟩, ⟨?_, ?_⟩, ⟨?_, ?_, ?_⟩, ⟨?_, ?_, ?_, ?_, ?_, ?_, ?_, ?_, ?_, ?_, ?_, ?_, ?_, ?_, ?_⟩⟩
  · rw [m0_n (by omega), m0_n (by omega)]
  · rw [m0_n (by omega), z0]; omega
  · intro j hj; rw [m0_n (by omega), m0_n (by omega)]
  · rw [m0_n (by omega), m0_n (by omega)]
  · rw [m0_n (by omega), z0]; omega
  · intro j hj; rw [m0_n (by omega), m0_n (by omega)]
  · rw [m0_n (by omega), m0_n (by omega)]
  · rw [m0_n (by omega), z0]; omega
  · intro j hj; rw [m0_n (by omega), m0_n (by omega)]
  · intro j hj; rw [m0_n (by omega), z0]; omega
  · intro j hj; rw [m0_n (by omega), m0_n (by omega)]
  · intro j hj; rw [m0_n (by omega)]; exact Or.inl rfl
  · intro j hj; rw [m0_n (by omega), m0_n (by omega)]
  · intro j hj; rw [m0_n (by omega), z0]; omega
  · intro j hj; rw [m0_n (by omega), m0_n (by omega)]
  · intro j hj; rw [m0_n (by omega)]; exact Or.inl rfl
  · rw [m0_n (by omega), m0_n (by omega)]
  · rw [m0_n (by omega), z0]; omega
  · intro j hj; rw [m0_n (by omega), m0_n (by omega)]
  · intro j hj; rw [m0_n (by omega)]; exact Or.inl rfl
  · intro j hj; rw [m0_n (by omega), m0_n (by omega)]
  · intro j hj; rw [m0_n (by omega), z0]; omega
  · intro j hj; rw [m0_n (by omega), m0_n (by omega)]
  · intro j hj; rw [m0_n (by omega), z0]; omega
  · intro j hj; rw [m0_n (by omega), m0_n (by omega)]
  · intro j hj; rw [m0_n (by omega), z0]; omega
  · intro j hj; rw [m0_n (by omega), m0_n (by omega)]
  · intro j hj; rw [m0_n (by omega), z0]; omega
  · intro j hj a; rw [m0_n (by omega), z0] at a; omega
  · intro j hj a; rw [m0_n (by omega), z0] at a; omega
  · intro j hj; rw [m0_v hj, m0_n (by omega), if_pos rfl]
  · intro j hj; rw [m0_n (by omega)]; exact Or.inl rfl
  · rw [m0_n (by omega), m0_n (by omega)]
  · rw [m0_n (by omega), z0]; omega
  · intro j hj; rw [m0_n (by omega), m0_n (by omega)]
  · rw [m0_n (by omega), m0_n (by omega)]
  · rw [m0_n (by omega), m0_n (by omega)]
  · rw [m0_n (by omega), m0_n (by omega)]
  · rw [m0_n (by omega), m0_n (by omega)]
  · rw [m0_n (by omega), m0_n (by omega)]
  · rw [m0_n (by omega), m0_n (by omega)]
  · rw [m0_n (by omega), m0_n (by omega)]
  · rw [m0_n (by omega), m0_n (by omega)]
  · intro j hj; rw [m0_n (by omega), m0_n (by omega)]
  · rw [m0_n (by omega)]
  · intro j hj; rw [m0_n (by omega), m0_n (by omega)]
  · intro j hj; rw [m0_n (by omega), m0_n (by omega)]
  · rw [m0_n (by omega), m0_n (by omega), z0]; omega
  · intro _; rw [m0_n (by omega), m0_n (by omega)]; exact ⟨rfl, rfl⟩
  · rw [m0_n (by omega), z0]; omega
theorem thr_m (M : sm_M) : f_Model_thrown M = some (M 68 0) := rfl
theorem tl_i {n : Nat} {x : Option (Int32 × sm_M × sm_O)} {y : sm_M → Option (Int32 × sm_M)} {R : sm_M → sm_O → Option Int32} (h : opOK n x y) (hR : ∀ M' o', Inv n M' → R M' o' = some 1) : (sm_b3 x fun r M1 o1 => sm_b2 (y M1) fun b M2 => sm_b1 (f_Model_thrown M2) fun t => (if t = r then (if r = 0 then (if (lg_cmp (o1 0) (Int32.toInt64 b)) = 0 then R M2 o1 else (some (0 : Int32))) else R M2 o1) else (some (0 : Int32)))) = some 1 := by
  obtain ⟨r, M1, o1, b, M2, h1, h2, h3, h4, h5⟩ := h
  rw [h1, i_b3]
  show sm_b2 (y M1) _ = _
  rw [h2, i_b2, thr_m, i_b1]
  show (if M2 68 0 = r then _ else _) = _
  rw [if_pos h3]
  by_cases c : r = 0
  · rw [if_pos c, if_pos (by rw [l_eq]; show (o1 0).toInt = (Int32.toInt64 b).toInt; rw [h4 c])]; exact hR _ _ h5
  · rw [if_neg c]; exact hR _ _ h5
theorem tl_b {n : Nat} {x : Option (Int32 × sm_M × sm_O)} {y : sm_M → Option (Int32 × sm_M)} {R : sm_M → sm_O → Option Int32} (h : opOK n x y) (hb : ∀ M1 o1, x = some (0, M1, o1) → o1 0 = 0 ∨ o1 0 = 1) (hR : ∀ M' o', Inv n M' → R M' o' = some 1) : (sm_b3 x fun r M1 o1 => sm_b2 (y M1) fun b M2 => sm_b1 (f_Model_thrown M2) fun t => (if t = r then (if r = 0 then (if b = 0 then (if (lg_cmp (o1 0) (0 : Int64)) = 0 then R M2 o1 else (some (0 : Int32))) else (if (lg_cmp (o1 0) (1 : Int64)) = 0 then R M2 o1 else (some (0 : Int32)))) else R M2 o1) else (some (0 : Int32)))) = some 1 := by
  obtain ⟨r, M1, o1, b, M2, h1, h2, h3, h4, h5⟩ := h
  have hb' := hb M1 o1
  rw [h1, i_b3]
  show sm_b2 (y M1) _ = _
  rw [h2, i_b2, thr_m, i_b1]
  show (if M2 68 0 = r then _ else _) = _
  rw [if_pos h3]
  by_cases c : r = 0
  · rw [if_pos c]
    show (if b = 0 then _ else _) = _
    have h4' := h4 c
    by_cases d : b = 0
    · rw [if_pos d, if_pos (by rw [l_eq]; rw [d] at h4'; show (o1 0).toInt = _; rw [h4']; rfl)]; exact hR _ _ h5
    · rw [if_neg d]
      rcases hb' (by rw [h1, c]) with e | e
      · rw [e] at h4'
        have := congrArg Int64.toInt h4'
        rw [Int32.toInt_toInt64] at this
        exact absurd (Int32.toInt_inj.mp (this.symm.trans rfl)) d
      · rw [if_pos (by rw [l_eq]; show (o1 0).toInt = _; rw [e])]; exact hR _ _ h5
  · rw [if_neg c]; exact hR _ _ h5
theorem tl_r {n : Nat} {M : sm_M} {x : Option Int32} {y : Option (Int32 × sm_M)} {R : sm_M → Option Int32} (h : rdOK M x y) (hi : Inv n M) (hR : ∀ M', Inv n M' → R M' = some 1) : (sm_b1 x fun r => sm_b2 y fun b M2 => (if r = b then R M2 else (some (0 : Int32)))) = some 1 := by
  obtain ⟨b, h1, h2⟩ := h
  rw [h1, i_b1, h2, i_b2]
  show (if b = b then _ else _) = _
  rw [if_pos rfl]
  exact hR _ (hi.thr 0)
theorem bo_c {M M1 : sm_M} {o o1 : sm_O} {a : Int32} (h : f_Law_clear M o a = some (0, M1, o1)) : o1 0 = 0 ∨ o1 0 = 1 := by
  unfold f_Law_clear at h
  cases e : f_Mill_clear M a with
  | none => rw [e] at h; simp [sm_b1] at h
  | some q =>
    rw [e, i_b1] at h
    cases q with
    | inl p =>
      simp only [Option.some.injEq, Prod.mk.injEq, true_and] at h
      rw [← h.2]
      by_cases c : p.1 = 0
      · left; simp [vp_updL, c]
      · right; simp [vp_updL, c]
    | inr m =>
      simp only at h
      by_cases c : m = 1
      · rw [if_pos c] at h; simp at h
      · rw [if_neg c] at h; simp at h
theorem bo_a {M M1 : sm_M} {o o1 : sm_O} {a b : Int32} (h : f_Law_alter M o a b = some (0, M1, o1)) : o1 0 = 0 ∨ o1 0 = 1 := by
  unfold f_Law_alter at h
  cases e : f_Mill_alter M a b with
  | none => rw [e] at h; simp [sm_b1] at h
  | some q =>
    rw [e, i_b1] at h
    cases q with
    | inl p =>
      simp only [Option.some.injEq, Prod.mk.injEq, true_and] at h
      rw [← h.2]
      by_cases c : p.1 = 0
      · left; simp [vp_updL, c]
      · right; simp [vp_updL, c]
    | inr m =>
      simp only at h
      by_cases c : m = 1
      · rw [if_pos c] at h; simp at h
      · rw [if_neg c] at h; simp at h
theorem law_s {L : Nat} {xs : Nat → Int32} {rec : sm_M → sm_O → Int32 → Option Int32} {M : sm_M} {o : sm_O} {w : Int32} {n : Nat} (h : Inv n M) (hn : n ≤ 900000) (w0 : 0 ≤ w.toInt) (w1 : w.toInt + 7 ≤ L) (hL : L ≤ 3584) (hR : ∀ M' o', Inv (n + 500) M' → rec M' o' (w + 7) = some 1) : g_Law L xs rec M o w = some 1 := by
  have hR0 : ∀ M' o', Inv n M' → rec M' o' (w + 7) = some 1 := fun M' o' hi => hR M' o' (hi.mono (by omega))
  have L7 : (7 : Int32).toInt = 7 := rfl
  have L5 : (5 : Int32).toInt = 5 := rfl
  have L6 : (6 : Int32).toInt = 6 := rfl
  have L1 := t_1
  have L2 := L_2
  have L3 := L_3
  have L4 := L_4
  have tL := t_of (n := L) (by omega)
  have e0 : (Int32.ofNat L - 7).toInt = L - 7 := by rw [t_sub] <;> omega
  have e1 : (w + 1).toInt = w.toInt + 1 := by rw [t_add] <;> omega
  have e2 : (w + 2).toInt = w.toInt + 2 := by rw [t_add] <;> omega
  have e3 : (w + 3).toInt = w.toInt + 3 := by rw [t_add] <;> omega
  have e4 : (w + 4).toInt = w.toInt + 4 := by rw [t_add] <;> omega
  have e5 : (w + 5).toInt = w.toInt + 5 := by rw [t_add] <;> omega
  have e6 : (w + 6).toInt = w.toInt + 6 := by rw [t_add] <;> omega
  have g1 : ∀ {α : Type} (k : Option α), sm_gd (w + 1) L k = k := fun k => i_gd (by omega) (by omega)
  have g2 : ∀ {α : Type} (k : Option α), sm_gd (w + 2) L k = k := fun k => i_gd (by omega) (by omega)
  have g3 : ∀ {α : Type} (k : Option α), sm_gd (w + 3) L k = k := fun k => i_gd (by omega) (by omega)
  have g4 : ∀ {α : Type} (k : Option α), sm_gd (w + 4) L k = k := fun k => i_gd (by omega) (by omega)
  have g5 : ∀ {α : Type} (k : Option α), sm_gd (w + 5) L k = k := fun k => i_gd (by omega) (by omega)
  have g6 : ∀ {α : Type} (k : Option α), sm_gd (w + 6) L k = k := fun k => i_gd (by omega) (by omega)
  rw [g_Law, if_neg (by rw [t_lt]; omega), i_gd w0 (by omega), i_nm]
  generalize xs w.toNatClampNeg &&& 31 = y
  by_cases c0 : y = 0
  · rw [if_pos c0]
    unfold lf_0; simp only [g1, g2, g3, g4, g5]
    exact tl_i (R := fun M' o' => rec M' o' (w + 7)) (op_put h o _ _ _ _ _) hR0
  rw [if_neg c0]
  by_cases c1 : y = 1
  · rw [if_pos c1]
    unfold lf_1; simp only [g1, g2]
    exact tl_i (R := fun M' o' => rec M' o' (w + 7)) (op_word h o _ _) hR0
  rw [if_neg c1]
  by_cases c2 : y = 2
  · rw [if_pos c2]
    unfold lf_2; simp only [g1, g2, g3, g4, g5]
    split
    · exact tl_i (R := fun M' o' => rec M' o' (w + 7)) (op_define h o _ _ _ _ 0 (Or.inl rfl)) hR0
    · exact tl_i (R := fun M' o' => rec M' o' (w + 7)) (op_define h o _ _ _ _ 1 (Or.inr rfl)) hR0
  rw [if_neg c2]
  by_cases c3 : y = 3
  · rw [if_pos c3]
    unfold lf_3; simp only [g1, g2, g3, g4, g5, g6]
    exact tl_i (R := fun M' o' => rec M' o' (w + 7)) (op_fix h o _ _ _ _ _ _) hR0
  rw [if_neg c3]
  by_cases c4 : y = 4
  · rw [if_pos c4]
    unfold lf_4; simp only [g1]
    exact tl_b (R := fun M' o' => rec M' o' (w + 7)) (op_clear h o _) (fun _ _ z => bo_c z) hR0
  rw [if_neg c4]
  by_cases c5 : y = 5
  · rw [if_pos c5]
    unfold lf_5; simp only [g1, g2]
    exact tl_i (R := fun M' o' => rec M' o' (w + 7)) (op_link h o _ _) hR0
  rw [if_neg c5]
  by_cases c6 : y = 6
  · rw [if_pos c6]
    unfold lf_6; simp only [g1]
    exact tl_r (R := fun M' => rec M' o (w + 7)) (rd_image h _) h (fun M' => hR0 M' o)
  rw [if_neg c6]
  by_cases c7 : y = 7
  · rw [if_pos c7]
    unfold lf_7; simp only [g1, g2]
    exact tl_b (R := fun M' o' => rec M' o' (w + 7)) (op_alter h o _ _) (fun _ _ z => bo_a z) hR0
  rw [if_neg c7]
  by_cases c8 : y = 8
  · rw [if_pos c8]
    unfold lf_8; simp only [g1]
    exact tl_i (R := fun M' o' => rec M' o' (w + 7)) (op_stretch h o _) hR0
  rw [if_neg c8]
  by_cases c9 : y = 9
  · rw [if_pos c9]
    unfold lf_9
    obtain ⟨r, M1, M2, q1, q2, q3⟩ := op_read h
    rw [q1, i_b2]
    show sm_b2 (f_Model_read M1) _ = _
    rw [q2, i_b2]
    show (if r = r then _ else _) = _
    rw [if_pos rfl]
    exact hR0 _ _ q3
  rw [if_neg c9]
  by_cases c10 : y = 10
  · rw [if_pos c10]
    unfold lf_10; simp only [g1]
    exact tl_i (R := fun M' o' => rec M' o' (w + 7)) (op_run h hn o _) hR
  rw [if_neg c10]
  by_cases c11 : y = 11
  · rw [if_pos c11]
    unfold lf_11; simp only [g1]
    exact tl_r (R := fun M' => rec M' o (w + 7)) (rd_value h _) h (fun M' => hR0 M' o)
  rw [if_neg c11]
  by_cases c12 : y = 12
  · rw [if_pos c12]
    unfold lf_12; simp only [g1]
    exact tl_r (R := fun M' => rec M' o (w + 7)) (rd_register h _) h (fun M' => hR0 M' o)
  rw [if_neg c12]
  by_cases c13 : y = 13
  · rw [if_pos c13]
    unfold lf_13; simp only [g1]
    exact tl_i (R := fun M' o' => rec M' o' (w + 7)) (op_memory h o _) hR0
  rw [if_neg c13]
  by_cases c14 : y = 14
  · rw [if_pos c14]
    unfold lf_14; simp only [g1]
    exact tl_r (R := fun M' => rec M' o (w + 7)) (rd_shown h (by omega) _) h (fun M' => hR0 M' o)
  rw [if_neg c14]
  by_cases c15 : y = 15
  · rw [if_pos c15]
    unfold lf_15; simp only [g1]
    exact tl_r (R := fun M' => rec M' o (w + 7)) (rd_about h _) h (fun M' => hR0 M' o)
  rw [if_neg c15]
  by_cases c16 : y = 16
  · rw [if_pos c16]
    unfold lf_16; simp only [g1, g2]
    exact tl_r (R := fun M' => rec M' o (w + 7)) (rd_object h _ _) h (fun M' => hR0 M' o)
  rw [if_neg c16]
  exact hR0 _ _ h
theorem law_l {L : Nat} {xs : Nat → Int32} (hL : L ≤ 3584) : ∀ (f k : Nat) (M : sm_M) (o : sm_O) (w : Int32), Inv (500 * k) M → w.toInt = 7 * k → 7 * k ≤ L → L < 7 * (k + f) → sm_lp3 (g_Law L xs) f M o w = some 1
  | 0, k, M, o, w, _, _, a, b => by omega
  | f + 1, k, M, o, w, hi, hw, a, b => by
    have L7 : (7 : Int32).toInt = 7 := rfl
    have tL := t_of (n := L) (by omega)
    have e0 : (Int32.ofNat L - 7).toInt = L - 7 := by rw [t_sub] <;> omega
    have e7 : (w + 7).toInt = w.toInt + 7 := by rw [t_add] <;> omega
    rw [lp3_s]
    by_cases c : Int32.ofNat L - 7 < w
    · rw [g_Law, if_pos c]
    · rw [t_lt] at c
      exact law_s hi (by omega) (by omega) (by omega) hL (fun M' o' h' => law_l hL f (k + 1) M' o' (w + 7) (h'.mono (by omega)) (by omega) (by omega) (by omega))
theorem sm_B {L : Nat} {xs : Nat → Int32} (h : L ≤ 3584) : sm_lp3 (g_Law L xs) 1100 sm_m0 (fun _ => 0) 0 = some 1 :=
  law_l h 1100 0 sm_m0 (fun _ => 0) 0 inv_0 rfl (by omega) (by omega)
