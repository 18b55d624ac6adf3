theorem q_sub (a b : Int32) : (a.toInt64 - b.toInt64).toInt = a.toInt - b.toInt := by
  have h1 := Int32.le_toInt a
  have h2 := Int32.toInt_lt a
  have h3 := Int32.le_toInt b
  have h4 := Int32.toInt_lt b
  rw [Int64.toInt_sub, Int32.toInt_toInt64, Int32.toInt_toInt64, Int.bmod_def]
  omega
theorem q_add (a b : Int32) : (a.toInt64 + b.toInt64).toInt = a.toInt + b.toInt := by
  have h1 := Int32.le_toInt a
  have h2 := Int32.toInt_lt a
  have h3 := Int32.le_toInt b
  have h4 := Int32.toInt_lt b
  rw [Int64.toInt_add, Int32.toInt_toInt64, Int32.toInt_toInt64, Int.bmod_def]
  omega
theorem q_4 (a : Int32) : ((4 : Int64) * a.toInt64).toInt = 4 * a.toInt := by
  have h1 := Int32.le_toInt a
  have h2 := Int32.toInt_lt a
  have : (4 : Int64).toInt = 4 := rfl
  rw [Int64.toInt_mul, Int32.toInt_toInt64, this, Int.bmod_def]
  omega
theorem q_div (x : Int64) (h0 : 0 ≤ x.toInt) : (x / 4).toInt = x.toInt / 4 := by
  have h2 := Int64.toInt_lt x
  have : (4 : Int64).toInt = 4 := rfl
  rw [Int64.toInt_div, this, Int.tdiv_eq_ediv_of_nonneg h0, Int.bmod_def]
  omega
theorem q_rem (x : Int64) (h0 : 0 ≤ x.toInt) : (x - x / 4 * 4).toInt = x.toInt % 4 := by
  have h2 := Int64.toInt_lt x
  have h4 : (4 : Int64).toInt = 4 := rfl
  have e : (x / 4 * 4).toInt = x.toInt / 4 * 4 := by
    rw [Int64.toInt_mul, q_div x h0, h4, Int.bmod_def]
    omega
  rw [Int64.toInt_sub, e, Int.bmod_def]
  omega
theorem q_32 (x : Int64) (h0 : -2147483648 ≤ x.toInt) (h1 : x.toInt < 2147483648) : x.toInt32.toInt = x.toInt := by
  rw [Int64.toInt_toInt32, Int.bmod_def]
  omega
theorem l_lt {x y : Int64} : (lg_cmp x y < 0) = (x.toInt < y.toInt) := propext ((lg_cmp_lt x y).trans Int64.lt_iff_toInt_lt)
theorem l_ge {x y : Int64} : (0 ≤ lg_cmp x y) = (y.toInt ≤ x.toInt) := propext ((lg_cmp_ge x y).trans Int64.le_iff_toInt_le)
theorem l_le {x y : Int64} : (lg_cmp x y ≤ 0) = (x.toInt ≤ y.toInt) := propext ((lg_cmp_le x y).trans Int64.le_iff_toInt_le)
theorem l_eq {x y : Int64} : (lg_cmp x y = 0) = (x.toInt = y.toInt) := propext ((lg_cmp_eq x y).trans Int64.toInt_inj.symm)
theorem l_0 : (0 : Int64).toInt = 0 := rfl
theorem c_place (a b c : Int32) (h0 : 0 ≤ c.toInt) (h1 : c.toInt ≤ 241) : ((0 ≤ a.toInt - b.toInt ∧ a.toInt - b.toInt < 4 * c.toInt ∧ (a.toInt - b.toInt) % 4 = 0) ∧ f_Machine_placeOf a b c = some ((a.toInt64 - b.toInt64) / 4).toInt32 ∧ (((a.toInt64 - b.toInt64) / 4).toInt32).toInt = (a.toInt - b.toInt) / 4) ∨ (¬ (0 ≤ a.toInt - b.toInt ∧ a.toInt - b.toInt < 4 * c.toInt ∧ (a.toInt - b.toInt) % 4 = 0) ∧ f_Machine_placeOf a b c = some (-1)) := by
  unfold f_Machine_placeOf
  simp only [i_nm, l_lt, l_ge, l_eq, l_0, q_sub, q_4]
  by_cases k1 : a.toInt - b.toInt < 0
  · exact Or.inr ⟨by omega, by rw [if_pos k1]⟩
  by_cases k2 : 4 * c.toInt ≤ a.toInt - b.toInt
  · exact Or.inr ⟨by omega, by rw [if_neg k1, if_pos k2]⟩
  have e := q_rem (a.toInt64 - b.toInt64) (by rw [q_sub]; omega)
  have e2 := q_div (a.toInt64 - b.toInt64) (by rw [q_sub]; omega)
  rw [q_sub] at e e2
  by_cases k3 : (a.toInt - b.toInt) % 4 = 0
  · refine Or.inl ⟨by omega, by rw [if_neg k1, if_neg k2, if_pos (by rw [e]; exact k3)], ?_⟩
    rw [q_32 _ (by rw [e2]; omega) (by rw [e2]; omega), e2]
  · exact Or.inr ⟨by omega, by rw [if_neg k1, if_neg k2, if_neg (by rw [e]; exact k3)]⟩
theorem t_m1 : (-1 : Int32).toInt = -1 := rfl
/-- the place of an address is the same in both -/
theorem c_index {n : Nat} {A B : sm_M} (h : MInv2 n A B) (a : Int32) : ∃ r : Int32, f_Machine_indexOf A a = some r ∧ f_Model_find B a = some r ∧ (r = -1 ∨ (0 ≤ r.toInt ∧ r.toInt < (B 68 21).toInt + (B 68 23).toInt)) ∧ f_Machine_placeOf a (B 68 20) (B 68 21) = some (if r < B 68 21 then r else -1) := by
  obtain ⟨c1, c2, c3⟩ := h.cwr
  unfold f_Machine_indexOf f_Model_find j_Model_find_65
  simp only [i_nm, l_lt, l_ge, l_eq, l_0, q_sub, q_4, h.m3, h.m4, h.m5, h.m6]
  by_cases hz : B 68 25 = 0
  · obtain ⟨z1, z2⟩ := h.st0 hz
    rw [if_pos hz]
    refine ⟨-1, ?_, rfl, Or.inl rfl, ?_⟩
    rotate_left
    · rw [z1]
      rcases c_place a (B 68 20) 0 (by decide) (by decide) with ⟨w, -⟩ | ⟨-, e⟩
      · rw [t_0] at w; omega
      · rw [e]; simp
    rw [z1, z2]
    rcases c_place a (B 68 20) 0 (by decide) (by decide) with ⟨w, -⟩ | ⟨-, e⟩
    · rw [t_0] at w; omega
    rcases c_place a (B 68 22) 0 (by decide) (by decide) with ⟨w, -⟩ | ⟨-, e'⟩
    · rw [t_0] at w; omega
    simp [e, e', i_b1]
  rw [if_neg hz]
  have E2 : ∀ {x : Int}, 0 ≤ x → x = a.toInt - (B 68 22).toInt → ((a.toInt64 - (B 68 22).toInt64) - (a.toInt64 - (B 68 22).toInt64) / 4 * 4).toInt = x % 4 := fun hx he => by rw [q_rem _ (by rw [q_sub]; omega), q_sub, he]
  have E1 : ∀ {x : Int}, 0 ≤ x → x = a.toInt - (B 68 20).toInt → ((a.toInt64 - (B 68 20).toInt64) - (a.toInt64 - (B 68 20).toInt64) / 4 * 4).toInt = x % 4 := fun hx he => by rw [q_rem _ (by rw [q_sub]; omega), q_sub, he]
  -- the second part
  have second : ∃ r : Int32, (sm_b1 (f_Machine_placeOf a (B 68 22) (B 68 23)) fun r29_6 => if r29_6 = -1 then some (-1) else some (B 68 21 + r29_6)) = some r ∧ (if a.toInt - (B 68 22).toInt < 0 then some (-1) else if 4 * (B 68 23).toInt ≤ a.toInt - (B 68 22).toInt then some (-1) else if (a.toInt64 - (B 68 22).toInt64 - (a.toInt64 - (B 68 22).toInt64) / 4 * 4).toInt = 0 then some (B 68 21 + ((a.toInt64 - (B 68 22).toInt64) / 4).toInt32) else some (-1)) = some r ∧ (r = -1 ∨ ((B 68 21).toInt ≤ r.toInt ∧ r.toInt < (B 68 21).toInt + (B 68 23).toInt)) := by
    rcases c_place a (B 68 22) (B 68 23) c2 (by omega) with ⟨⟨w1, w2, w3⟩, e, ei⟩ | ⟨w, e⟩
    · refine ⟨B 68 21 + ((a.toInt64 - (B 68 22).toInt64) / 4).toInt32, ?_, ?_, Or.inr ?_⟩
      · rw [e, i_b1, if_neg]
        intro hh
        rw [hh, t_m1] at ei
        omega
      · rw [if_neg (by omega), if_neg (by omega), if_pos (by rw [E2 w1 rfl]; exact w3)]
      · rw [t_add, ei] <;> (try rw [ei]) <;> omega
    · refine ⟨-1, by simp [e, i_b1], ?_, Or.inl rfl⟩
      by_cases k1 : a.toInt - (B 68 22).toInt < 0
      · rw [if_pos k1]
      by_cases k2 : 4 * (B 68 23).toInt ≤ a.toInt - (B 68 22).toInt
      · rw [if_neg k1, if_pos k2]
      · rw [if_neg k1, if_neg k2, if_neg (by rw [E2 (by omega) rfl]; omega)]
  obtain ⟨r, s1, s2, s3⟩ := second
  rcases c_place a (B 68 20) (B 68 21) c1 (by omega) with ⟨⟨w1, w2, w3⟩, e, ei⟩ | ⟨w, e⟩
  · refine ⟨((a.toInt64 - (B 68 20).toInt64) / 4).toInt32, ?_, ?_, Or.inr (by rw [ei]; omega), ?_⟩
    rotate_left 2
    · rw [e, if_pos (by rw [t_lt, ei]; omega)]
    · rw [e, i_b1, if_neg]
      intro hh
      rw [hh, t_m1] at ei
      omega
    · rw [if_neg (by omega), if_neg (by omega), if_pos (by rw [E1 w1 rfl]; exact w3)]
  · refine ⟨r, ?_, ?_, s3.imp id (fun q => by omega), ?_⟩
    rotate_left 2
    · rw [e]
      rcases s3 with s3 | s3
      · rw [s3]; simp
      · rw [if_neg (by rw [t_lt]; omega)]
    · rw [e, i_b1, if_pos rfl]; exact s1
    · by_cases k1 : a.toInt - (B 68 20).toInt < 0
      · rw [if_pos k1]; exact s2
      by_cases k2 : 4 * (B 68 21).toInt ≤ a.toInt - (B 68 20).toInt
      · rw [if_neg k1, if_pos k2]; exact s2
      · rw [if_neg k1, if_neg k2, if_neg (by rw [E1 (by omega) rfl]; omega)]; exact s2
theorem op_memory {n : Nat} {M : sm_M} (h : Inv n M) (o : sm_O) (a0 : Int32) : opOK n (f_Law_memory M o a0) (fun M1 => f_Model_memory M1 a0) := by
  obtain ⟨r, e1, e2, e3, -⟩ := c_index h.K a0
  obtain ⟨c1, c2, c3⟩ := h.K.cwr
  by_cases hr : r = -1
  · subst hr
    exact ok_fail h o 1 0 (by decide) (by simp [f_Law_memory, f_Mill_memory, e1, i_b1]) (by simp [f_Model_memory, e2, i_b1, j_Model_memory_17, i_nm, i_up])
  rcases e3 with e3 | ⟨r0, r1⟩
  · exact absurd e3 hr
  have gd : ∀ {α : Type} (x : Option α), sm_gd r 241 x = x := fun x => i_gd (by omega) (by omega)
  have gd' : ∀ {α : Type} (x : Option α), sm_gd r 250 x = x := fun x => i_gd (by omega) (by omega)
  have hm := h.K.mw r.toNatClampNeg (by rw [t_n]; omega)
  refine ⟨0, M, vp_updL o 0 (Int32.toInt64 (M 65 r.toNatClampNeg)), M 87 r.toNatClampNeg, sm_up M 68 0 0, by simp [f_Law_memory, f_Mill_memory, e1, i_b1, hr, gd], ?_, by simp [i_up], fun _ => by simp [vp_updL, hm], h.thr 0⟩
  simp [f_Model_memory, e2, i_b1, j_Model_memory_17, i_nm, i_up, hr, gd']
theorem op_alter {n : Nat} {M : sm_M} (h : Inv n M) (o : sm_O) (a0 a1 : Int32) : opOK n (f_Law_alter M o a0 a1) (fun M1 => f_Model_alter M1 a0 a1) := by
  have hs := h.I.sz
  have hr := h.I.szr
  have af : ∀ y1 y2, j_Model_alter_24 M y1 y2 = some (0, sm_up M 68 0 1) := fun y1 y2 => by simp [j_Model_alter_24, j_Model_alter_29, i_nm, i_up]
  rcases c_bel a0 (M 62 1) with ⟨g, gn⟩ | ⟨g, g1, g2⟩
  · refine ok_fail h o 1 0 (by decide) (by simp [f_Law_alter, f_Mill_alter, g, i_b1]) ?_
    rw [hs] at gn
    simp only [f_Model_alter, af]
    by_cases q : a0 < 0
    · rw [if_pos q]
    · rw [if_neg q, if_pos (by grind)]
  have q0 : ¬ a0 < 0 := by grind
  have q1 : ¬ M 68 18 ≤ a0 := by rw [← hs]; grind
  rcases c_bel a1 256 with ⟨u, -⟩ | ⟨u, u1, u2⟩
  · exact ok_fail h o 1 0 (by decide) (by simp [f_Law_alter, f_Mill_alter, g, u, i_b1]) (by simp [f_Model_alter, af, q0, q1, w255, u, i_b1])
  have v1 := g1
  have v2 := g2
  rw [t_le, t_0] at v1
  rw [t_lt, hs] at v2
  have gd : ∀ {α : Type} (x : Option α), sm_gd a0 1000 x = x := fun x => i_gd (by omega) (by omega)
  refine ⟨0, sm_up M 63 a0.toNatClampNeg a1, vp_updL o 0 1, 1, sm_up (sm_up (sm_up M 63 a0.toNatClampNeg a1) 68 0 0) 86 a0.toNatClampNeg a1, by simp [f_Law_alter, f_Mill_alter, g, u, i_b1, gd, i_nm], ?_, by simp [i_up], fun _ => by simp [vp_updL], ?_⟩
  · simp [f_Model_alter, q0, w255, u, i_b1, i_up, q1, j_Model_alter_29, i_nm, gd]
  · refine ⟨fun o' ho' => (h.P o' ho').congr (by (intro k' j' w; (first | unfold ownP at w | unfold ownV at w | unfold ownI at w | unfold ownM at w | unfold ownC at w | unfold ownD at w | unfold ownN at w | unfold ownF at w | unfold ownX at w); simp only [i_up]; repeat rw [if_neg (by omega)])), h.V.congr (by (intro k' j' w; (first | unfold ownP at w | unfold ownV at w | unfold ownI at w | unfold ownM at w | unfold ownC at w | unfold ownD at w | unfold ownN at w | unfold ownF at w | unfold ownX at w); simp only [i_up]; repeat rw [if_neg (by omega)])), ?_, h.K.congr (by (intro k' j' w; (first | unfold ownP at w | unfold ownV at w | unfold ownI at w | unfold ownM at w | unfold ownC at w | unfold ownD at w | unfold ownN at w | unfold ownF at w | unfold ownX at w); simp only [i_up]; repeat rw [if_neg (by omega)]))⟩
    have hi := h.I.im
    refine ⟨?_, ?_, ?_⟩
    · simp only [i_up]; simp [hs]
    · simp only [i_up]; simp; exact hr
    · intro j hj
      simp only [i_up]
      by_cases hjj : j = a0.toNatClampNeg <;> simp [hjj, hi j hj]
theorem t_rem16 (x : Int32) (h0 : 0 ≤ x.toInt) : (x - x / 16 * 16).toInt = x.toInt % 16 := by
  have h2 := Int32.toInt_lt x
  have h4 : (16 : Int32).toInt = 16 := rfl
  have e0 : (x / 16).toInt = x.toInt / 16 := by
    rw [Int32.toInt_div, h4, Int.tdiv_eq_ediv_of_nonneg h0, Int.bmod_def]
    omega
  have e : (x / 16 * 16).toInt = x.toInt / 16 * 16 := by
    rw [Int32.toInt_mul, e0, h4, Int.bmod_def]
    omega
  rw [Int32.toInt_sub, e, Int.bmod_def]
  omega
theorem rd_shown {n : Nat} {M : sm_M} (h : Inv n M) (hn : n ≤ 1000000) (a0 : Int32) : rdOK M (f_Mill_shown M a0) (f_Model_shown M a0) := by
  obtain ⟨s0, s1⟩ := h.K.sh
  have hm := h.K.m10
  unfold f_Mill_shown f_Model_shown f_Machine_lastShown f_Math_min f_Mill_isBelow rdOK
  simp only [i_nm, z_thr M 0 (a := 68) (b := 29) (by omega), hm, i_b1i, i_b1]
  have L16 : (16 : Int32).toInt = 16 := rfl
  have L15 : (15 : Int32).toInt = 15 := rfl
  by_cases q0 : a0 < 0
  · exact ⟨-1, by simp [q0], by simp [q0]⟩
  by_cases q1 : (15 : Int32) < a0
  · refine ⟨-1, ?_, by simp [q0, q1]⟩
    rw [t_lt] at q0 q1
    rw [L15] at q1
    simp only [t_lt, t_le, L16]
    by_cases q2 : (16 : Int) < (M 68 29).toInt
    · simp [q2, q0]; intro; omega
    · simp [q2, q0]; intro; omega
  by_cases q3 : a0 < M 68 29
  · have p0 := q0
    have p1 := q1
    have p3 := q3
    rw [t_lt, t_0] at p0
    rw [t_lt, L15] at p1
    rw [t_lt] at p3
    have e1 : (M 68 29 - 1 - a0).toInt = (M 68 29).toInt - 1 - a0.toInt := by
      have e0 : (M 68 29 - 1).toInt = (M 68 29).toInt - 1 := by rw [t_sub, t_1] <;> rw [t_1] <;> omega
      rw [t_sub, e0] <;> rw [e0] <;> omega
    have e2 := t_rem16 (M 68 29 - 1 - a0) (by rw [e1]; omega)
    have gd : ∀ {α : Type} (x : Option α), sm_gd (M 68 29 - 1 - a0 - (M 68 29 - 1 - a0) / 16 * 16) 16 x = x := fun x => i_gd (by rw [e2]; omega) (by rw [e2]; omega)
    have hl := h.K.ln ((M 68 29 - 1 - a0 - (M 68 29 - 1 - a0) / 16 * 16).toNatClampNeg) (by rw [t_n, e2]; omega)
    refine ⟨M 67 ((M 68 29 - 1 - a0 - (M 68 29 - 1 - a0) / 16 * 16).toNatClampNeg), ?_, ?_⟩
    · have k1 : ¬ M 68 29 ≤ a0 := by grind
      have k2 : ¬ (16 : Int32) ≤ a0 := by grind
      by_cases k3 : (16 : Int32) < M 68 29 <;> simp [k3, q0, k1, k2, gd, i_b1]
    · rw [if_neg q0, if_neg q1, if_pos q3, gd, z_thr M 0 (by omega), hl]
  · refine ⟨-1, ?_, by simp [q0, q1, q3]⟩
    have k1 : M 68 29 ≤ a0 := by grind
    by_cases k3 : (16 : Int32) < M 68 29
    · exfalso; grind
    · simp [k3, q0, k1, i_b1]
