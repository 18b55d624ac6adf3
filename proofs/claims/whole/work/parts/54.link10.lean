def CC (A : sm_M) (ST : Nat → Int32) (b : Int32) : Prop := A 1 4 = b ∧ A 1 5 = stg 0 (A 70) b 4 ∧ A 1 6 = dS (A 70) b ∧ A 1 7 = stg 1 (A 70) (dS (A 70) b) 4 ∧ (∀ o s, o < 4 → s < 2 → A 59 (4 * s + o) = ST (2 * o + s)) ∧ (∀ o, o < 4 → ST (2 * o) = stg 0 (A 70) b o) ∧ (∀ o, o < 4 → ST (2 * o + 1) = stg 1 (A 70) (dS (A 70) b) o) ∧ (∀ o, o < 4 → PInv A o) ∧ 0 ≤ b.toInt ∧ b.toInt ≤ 1000000000
theorem CC_cg {A A' : sm_M} {ST : Nat → Int32} {b : Int32} (h : CC A ST b) (e : ∀ k j, k ≠ 60 → k ≠ 61 → k ≠ 62 → k ≠ 63 → A' k j = A k j) : CC A' ST b := by
  obtain ⟨h1, h2, h3, h4, h5, h6, h7, h8, h9, h10⟩ := h
  have e70 : A' 70 = A 70 := funext fun j => e 70 j (by omega) (by omega) (by omega) (by omega)
  have e1 : ∀ j, A' 1 j = A 1 j := fun j => e 1 j (by omega) (by omega) (by omega) (by omega)
  refine ⟨by rw [e1]; exact h1, by rw [e1, e70]; exact h2, by rw [e1, e70]; exact h3, by rw [e1, e70]; exact h4, fun o s a b => by rw [e 59 _ (by omega) (by omega) (by omega) (by omega)]; exact h5 o s a b, fun o a => by rw [e70]; exact h6 o a, fun o a => by rw [e70]; exact h7 o a, fun o ho => (h8 o ho).congr (fun k j w => by unfold ownP at w; exact e k j (by omega) (by omega) (by omega) (by omega)), h9, h10⟩
theorem CC_pt {A : sm_M} {ST : Nat → Int32} {b : Int32} (h : CC A ST b) (f : Nat → Int32) : CC (sm_pt A 63 f) ST b := CC_cg h (fun k j _ _ _ h => by rw [pt_ne h])
theorem CC_sz {A : sm_M} {ST : Nat → Int32} {b : Int32} (h : CC A ST b) : szOK (A 70) := by
  obtain ⟨-, -, -, -, -, -, -, h8, -, -⟩ := h
  intro i hi
  have c := (h8 (i / 2) (by omega)).C.cr
  have d := (h8 (i / 2) (by omega)).D.dr
  by_cases z : i % 2 = 0
  · rw [show 2 * (i / 2) = i by omega] at c; exact c
  · rw [show 2 * (i / 2) + 1 = i by omega] at d; omega
theorem CC_st {A : sm_M} {ST : Nat → Int32} {b : Int32} (h : CC A ST b) {o s : Nat} (ho : o < 4) (hs : s < 2) : (ST (2 * o + s)).toInt = (if s = 0 then b.toInt else (dS (A 70) b).toInt) + 4 * (pre (A 70) (4 * s + o) - pre (A 70) (4 * s) : Int) := by
  have sz := CC_sz h
  obtain ⟨h1, h2, h3, h4, h5, h6, h7, h8, h9, h10⟩ := h
  have d := dS_t sz h9 h10
  have z : s = 0 ∨ s = 1 := by omega
  rcases z with z | z
  · subst z
    rw [if_pos rfl, Nat.add_zero, h6 o ho]
    exact stg_t sz 0 (by omega) h9 (by omega) (by omega)
  · subst z
    rw [if_neg (by omega), h7 o ho]
    exact stg_t sz 1 (by omega) (by omega) (by omega) (by omega)
theorem CC_ok {A : sm_M} {ST : Nat → Int32} {b : Int32} (h : CC A ST b) : stOK ST := by
  have sz := CC_sz h
  intro i hi
  have t := CC_st h (o := i / 2) (s := i % 2) (by omega) (by omega)
  obtain ⟨h1, h2, h3, h4, h5, h6, h7, h8, h9, h10⟩ := h
  have d := dS_t sz h9 h10
  rw [show 2 * (i / 2) + i % 2 = i by omega] at t
  have p := pre_le sz (q := 4 * (i % 2) + i / 2) (by omega)
  have p2 : pre (A 70) (4 * (i % 2)) ≤ pre (A 70) (4 * (i % 2) + i / 2) := by
    by_cases z : i / 2 = 0
    · rw [z]; exact Nat.le_refl _
    · have := pre_mono (S := A 70) (q := 4 * (i % 2)) (r := 4 * (i % 2) + i / 2) (by omega); omega
  split at t <;> omega
theorem byt_c {A : sm_M} {ST : Nat → Int32} {b : Int32} (h : CC A ST b) {s p : Int32} {o sn pn : Nat} (ho : o < 4) (hs : s.toInt = sn) (h2 : sn < 2) (hp : p.toInt = pn) (hp2 : pn ≤ 24) : ∃ r, f_Linker_byteOf A s (ST (2 * o + sn) + 4 * p) = some r ∧ r.toInt = 4 * (9 + pre (A 70) (4 * sn + o) + pn : Nat) := by
  have sz := CC_sz h
  have t := CC_st h ho h2
  have ok := CC_ok h (2 * o + sn) (by omega)
  obtain ⟨h1, h2', h3, h4, h5, h6, h7, h8, h9, h10⟩ := h
  have d := dS_t sz h9 h10
  have m := t_4m (w := p) (by omega) (by omega)
  have a : (ST (2 * o + sn) + 4 * p).toInt = (ST (2 * o + sn)).toInt + 4 * pn := by rw [t_add] <;> omega
  have ce := stg_t sz (b := b) 0 (by omega) h9 (by omega) (o := 4) (by omega)
  have z0 : pre (A 70) (4 * 0) = 0 := rfl
  have z4 : pre (A 70) (4 * 0 + 4) = pre (A 70) 4 := rfl
  have z5 : pre (A 70) (4 * 1) = pre (A 70) 4 := rfl
  have p4 := pre_le sz (q := 4) (by omega)
  have pq := pre_le sz (q := 4 * sn + o) (by omega)
  have L36 := L_36
  rw [f_Linker_byteOf, i_nm, i_nm, h1, h2', h3]
  by_cases z : s = 0
  · have z2 : sn = 0 := by subst z; rw [t_0] at hs; omega
    rw [if_pos z]
    subst z2
    rw [if_pos rfl] at t
    have e1 : (36 - b).toInt = 36 - b.toInt := by rw [t_sub] <;> omega
    refine ⟨_, rfl, ?_⟩
    rw [t_add] <;> omega
  · have z2 : sn = 1 := by
      have : sn ≠ 0 := fun q => z (Int32.toInt_inj.mp (by rw [hs, q]; rfl))
      omega
    rw [if_neg z]
    subst z2
    rw [if_neg (by omega)] at t
    have e1 : (36 + stg 0 (A 70) b 4).toInt = 36 + (stg 0 (A 70) b 4).toInt := by rw [t_add] <;> omega
    have e2 : (36 + stg 0 (A 70) b 4 - b).toInt = 36 + (stg 0 (A 70) b 4).toInt - b.toInt := by rw [t_sub] <;> omega
    have e3 : (36 + stg 0 (A 70) b 4 - b - dS (A 70) b).toInt = 36 + (stg 0 (A 70) b 4).toInt - b.toInt - (dS (A 70) b).toInt := by rw [t_sub] <;> omega
    have p5 : pre (A 70) 4 ≤ pre (A 70) (4 * 1 + o) := by
      by_cases y : o = 0
      · rw [y]; exact Nat.le_refl _
      · have := pre_mono (S := A 70) (q := 4) (r := 4 * 1 + o) (by omega); omega
    refine ⟨_, rfl, ?_⟩
    rw [t_add] <;> omega
theorem sec_l {A : sm_M} {f X : Nat → Int32} {a n w4 : Nat} {at0 : Int32} (hat : at0.toInt = 4 * a) (hn : (A w4 1).toInt = n) (hX : ∀ j, j < n → A (w4 + 1) j = X j) (hl : n ≤ sm_ln (w4 + 1)) (h1 : w4 ≠ 63) (h2 : w4 + 1 ≠ 63) (ha : a + n ≤ 249) : ∀ (fu i : Nat) (w : Int32), w.toInt = i → i ≤ n → n - i < fu → sm_lp2 (g_Linker_writeSection_29 at0 w4) fu (sm_pt A 63 (wfr f X a i)) w = some (sm_pt A 63 (wfr f X a n))
  | 0, i, w, _, _, h => by omega
  | fu + 1, i, w, hw, hi, hf => by
    rw [lp2_s, g_Linker_writeSection_29, pt_ne h1]
    by_cases c : A w4 1 ≤ w
    · rw [if_pos c]
      rw [t_le] at c
      rw [show i = n by omega]
    · rw [if_neg c]
      rw [t_le] at c
      have ei := t_inc (x := w) (by omega)
      have m := t_4m (w := w) (by omega) (by omega)
      have e : (at0 + 4 * w).toInt = 4 * (a + i : Nat) := by rw [t_add] <;> omega
      rw [i_gd (by omega) (by omega), pt_ne h2, t_n, show w.toInt.toNat = i by omega, hX i (by omega), sw_c' A _ _ _ (a + i) e (by omega), i_b1]
      exact sec_l hat hn hX hl h1 h2 ha fu (i + 1) (w + 1) (by omega) (by omega) (by omega)
theorem wse_c {A : sm_M} {ST : Nat → Int32} {b : Int32} (h : CC A ST b) {o s : Int32} {on sn : Nat} (ho : o.toInt = on) (h4 : on < 4) (hs : s.toInt = sn) (h2 : sn < 2) (f : Nat → Int32) : f_Linker_writeSection (sm_pt A 63 f) o s = some (sm_pt A 63 (wfr f (fun p => A 69 (48 * on + 24 * sn + p)) (9 + pre (A 70) (4 * sn + on)) (nS (A 70) (4 * sn + on)))) := by
  have sz := CC_sz h
  have hp := CC_pt h f
  have o2 : o.toNatClampNeg = on := by rw [t_n]; omega
  have n := nS_le sz (q := 4 * sn + on) (by omega)
  rw [show (4 * sn + on) % 4 = on by omega, show (4 * sn + on) / 4 = sn by omega] at n
  have pq := pre_le sz (q := 4 * sn + on) (by omega)
  obtain ⟨r, r1, r2⟩ := byt_c hp (s := s) (p := 0) (pn := 0) h4 hs h2 rfl (by omega)
  rw [pt_ne (by omega)] at r2
  have h59 := hp.2.2.2.2.1
  have hP := h.2.2.2.2.2.2.2.1 on h4
  have hP' := hp.2.2.2.2.2.2.2.1 on h4
  rw [f_Linker_writeSection, i_gd (by omega) (by omega), i_nm, o2, f_Part_sectionOf]
  by_cases z : s = 0
  · have z2 : sn = 0 := by subst z; rw [t_0] at hs; omega
    subst z2
    rw [if_pos z, i_b1, c_adr h59 ho h4 hs h2, i_b1, r1, i_b1]
    have dl := hP.C.cr
    rw [show 2 * on = 2 * on + 0 from rfl] at dl
    exact sec_l (A := A) (f := f) (X := fun p => A 69 (48 * on + 24 * 0 + p)) r2 (by rw [hP.C.cc]; exact n.2.symm) (fun j hj => by rw [hP.C.cw j (by omega)]; rfl) (by rw [l_c on h4]; omega) (by omega) (by omega) (by omega) 1100 0 0 rfl (by omega) (by omega)
  · have z2 : sn = 1 := by
      have : sn ≠ 0 := fun q => z (Int32.toInt_inj.mp (by rw [hs, q]; rfl))
      omega
    subst z2
    rw [if_neg z, i_b1, c_adr h59 ho h4 hs h2, i_b1, r1, i_b1]
    have dl := hP.D.dr
    exact sec_l (A := A) (f := f) (X := fun p => A 69 (48 * on + 24 * 1 + p)) r2 (by rw [hP.D.dc]; exact n.2.symm) (fun j hj => by rw [hP.D.dw j (by omega)]) (by rw [l_d on h4]; omega) (by omega) (by omega) (by omega) 1100 0 0 rfl (by omega) (by omega)
