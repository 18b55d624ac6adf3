theorem cpy_c {A : sm_M} (x : Int32) : ∀ (fu i : Nat) (A' : sm_M) (w : Int32), (∀ k j, k ≠ 61 → A' k j = A k j) → (∀ j, j < i → A' 61 j = A 60 j) → w.toInt = i → i ≤ 16 → 16 - i < fu → ∃ A2, sm_lp2 (g_Linker_build_27 x) fu A' w = g_Linker_build_27 x (fun _ _ => none) A2 16 ∧ (∀ k j, k ≠ 61 → A2 k j = A k j) ∧ (∀ j, j < 16 → A2 61 j = A 60 j)
  | 0, i, A', w, _, _, _, _, h => by omega
  | fu + 1, i, A', w, fr, hA, hw, hi, hf => by
    have L16 := L_16
    by_cases c : i = 16
    · subst c
      have : w = 16 := Int32.toInt_inj.mp (by rw [hw]; rfl)
      subst this
      refine ⟨A', ?_, fr, hA⟩
      rw [lp2_s, g_Linker_build_27, g_Linker_build_27, if_pos (by decide), if_pos (by decide)]
    · have ei := t_inc (x := w) (by omega)
      have w2 : w.toNatClampNeg = i := by rw [t_n]; omega
      rw [lp2_s, g_Linker_build_27, if_neg (by rw [t_le]; omega), i_gd (by omega) (by omega), i_gd (by omega) (by omega), i_nm, w2]
      exact cpy_c x fu (i + 1) _ (w + 1) (fun k j hk => by rw [i_up, if_neg (by omega)]; exact fr k j hk) (fun j hj => by
        rw [i_up]
        by_cases q : j = i
        · rw [if_pos ⟨rfl, q⟩, q]; exact fr 60 i (by omega)
        · rw [if_neg (by omega)]; exact hA j (by omega)) (by omega) (by omega) (by omega)
theorem OQ_in {S : Nat → Int32} {o : Nat} {L f f0 : Nat → Int32} (h : OQ S o L f f0) {q k c : Nat} (hq : q < 8) (ho : q % 4 = o) (hk : k < nS S q) (hc : c < 4) : f (4 * (9 + pre S q + k) + c) = bt c (L (48 * (q % 4) + 24 * (q / 4) + k)) := by
  have := h.1 (q / 4) k c (by omega) (by rw [show 4 * (q / 4) + o = q by omega]; exact hk) hc
  rw [show 4 * (q / 4) + o = q by omega] at this
  rw [this, ho]
theorem OQ_out {S : Nat → Int32} {o : Nat} (h4 : o < 4) {L f f0 : Nat → Int32} (h : OQ S o L f f0) {q k c : Nat} (hq : q < 8) (ho : q % 4 ≠ o) (hk : k < nS S q) (hc : c < 4) : f (4 * (9 + pre S q + k) + c) = f0 (4 * (9 + pre S q + k) + c) := by
  refine h.2 _ c hc (fun s hs => ?_)
  have := pre_dj (S := S) (q := q) (r := 4 * s + o) (k := k) (by omega) hk
  omega
theorem OQ_off {S : Nat → Int32} {o : Nat} (h4 : o < 4) {L f f0 : Nat → Int32} (h : OQ S o L f f0) {i c : Nat} (hi : i < 9 ∨ 9 + pre S 8 ≤ i) (hc : c < 4) : f (4 * i + c) = f0 (4 * i + c) := by
  refine h.2 _ c hc (fun s hs => ?_)
  have := pre_mono (S := S) (q := 4 * s + o) (r := 8) (by omega)
  omega
theorem bld_c {A B : sm_M} {ST : Nat → Int32} {b x : Int32} (h : CC A ST b) (hAB : ∀ k, 70 ≤ k → k ≤ 81 → A k = B k) (hFB : ∀ o, o < 4 → FInv B o) (h82 : ∀ j, j < 192 → B 82 j = A 69 j) (h60 : ∀ j, j < 16 → A 60 j = oV A ST (gO A (Int32.ofNat j))) (hx0 : 0 ≤ x.toInt) (hx1 : x.toInt < 16) (s0 : 0 ≤ (A 62 1).toInt) (s1 : (A 62 1).toInt ≤ 1000) : ∃ A', sm_lp2 (g_Linker_build_27 x) 1100 A 0 = some (Int32.ofNat (4 * (9 + pre (A 70) 8)), A') ∧ A' 62 1 = Int32.ofNat (4 * (9 + pre (A 70) 8)) ∧ (∀ j, j < 16 → A' 61 j = A 60 j) ∧ (∀ k j, k ≠ 61 → k ≠ 62 → k ≠ 63 → A' k j = A k j) ∧ (∀ i c, i < 9 → c < 4 → A' 63 (4 * i + c) = bt c (HH (A 60 x.toInt.toNat) (A 1 4) (A 1 5 - A 1 4) (A 1 6) (A 1 7 - A 1 6) i)) ∧ (∀ q k c, q < 8 → k < nS (A 70) q → c < 4 → A' 63 (4 * (9 + pre (A 70) q + k) + c) = bt c (LK B ST 64 (48 * (q % 4) + 24 * (q / 4) + k))) ∧ (∀ i c, 9 + pre (A 70) 8 ≤ i → c < 4 → A' 63 (4 * i + c) = A 63 (4 * i + c)) := by
  have sz := CC_sz h
  obtain ⟨A2, a1, a2, a3⟩ := cpy_c (A := A) x 1100 0 A 0 (fun _ _ _ => rfl) (fun j hj => by omega) rfl (by omega) (by omega)
  have e70 : A2 70 = A 70 := funext fun j => a2 70 j (by omega)
  have hcc := h
  obtain ⟨h1, h2, h3, h4, -, -, -, -, h9, h10⟩ := hcc
  have d := dS_t sz h9 h10
  have c0 := stg_t sz (b := b) 0 (by omega) h9 (by omega) (o := 4) (by omega)
  have c1 := stg_t sz (b := dS (A 70) b) 1 (by omega) (by omega) (by omega) (o := 4) (by omega)
  have z0 : pre (A 70) (4 * 0) = 0 := rfl
  have z1 : pre (A 70) (4 * 0 + 4) = pre (A 70) 4 := rfl
  have z2 : pre (A 70) (4 * 1) = pre (A 70) 4 := rfl
  have z3 : pre (A 70) (4 * 1 + 4) = pre (A 70) 8 := rfl
  have p8 := pre_le sz (q := 8) (by omega)
  have p4 := pre_le sz (q := 4) (by omega)
  have L36 := L_36
  have eT : (36 + A2 1 5 - A2 1 4 + A2 1 7 - A2 1 6).toInt = 4 * (9 + pre (A 70) 8 : Nat) := by
    rw [a2 1 5 (by omega), a2 1 4 (by omega), a2 1 7 (by omega), a2 1 6 (by omega), h1, h2, h3, h4]
    have e1 : (36 + stg 0 (A 70) b 4).toInt = 36 + (stg 0 (A 70) b 4).toInt := by rw [t_add] <;> omega
    have e2 : (36 + stg 0 (A 70) b 4 - b).toInt = 36 + (stg 0 (A 70) b 4).toInt - b.toInt := by rw [t_sub] <;> omega
    have e3 : (36 + stg 0 (A 70) b 4 - b + stg 1 (A 70) (dS (A 70) b) 4).toInt = 36 + (stg 0 (A 70) b 4).toInt - b.toInt + (stg 1 (A 70) (dS (A 70) b) 4).toInt := by rw [t_add] <;> omega
    rw [t_sub] <;> omega
  have eTT := of_t (w := 36 + A2 1 5 - A2 1 4 + A2 1 7 - A2 1 6) (i := 4 * (9 + pre (A 70) 8)) (by omega)
  have x2 : x.toNatClampNeg = x.toInt.toNat := rfl
  rw [a1, g_Linker_build_27, if_pos (by decide), f_Image_resize, i_nm, lp_resize _ (by omega) 1100 A2 (A2 62 1) (by rw [a2 62 1 (by omega)]; exact s0) (by rw [a2 62 1 (by omega)]; exact s1) (by rw [a2 62 1 (by omega)]; omega) (by omega), i_b1, i_gd hx0 (by omega), ← eTT]
  generalize hA3 : sm_up (z_fill A2 63 (A2 62 1).toInt.toNat ((Int32.ofNat (4 * (9 + pre (A 70) 8))).toInt - (A2 62 1).toInt).toNat) 62 1 (Int32.ofNat (4 * (9 + pre (A 70) 8))) = A3
  have fr : ∀ k j, k ≠ 61 → k ≠ 62 → k ≠ 63 → A3 k j = A k j := fun k j b1 b2 b3 => by
    rw [← hA3, i_up, if_neg (by omega), z_fill_at, if_neg (by omega)]
    exact a2 k j b1
  have f61 : ∀ j, j < 16 → A3 61 j = A 60 j := fun j hj => by
    rw [← hA3, i_up, if_neg (by omega), z_fill_at, if_neg (by omega)]
    exact a3 j hj
  have f62 : A3 62 1 = Int32.ofNat (4 * (9 + pre (A 70) 8)) := by rw [← hA3, i_up, if_pos ⟨rfl, rfl⟩]
  have tT := t_of (n := 4 * (9 + pre (A 70) 8)) (by omega)
  have f63 : ∀ j, 4 * (9 + pre (A 70) 8) ≤ j → A3 63 j = A 63 j := fun j hj => by
    have s2 := a2 62 1 (by omega)
    rw [← hA3, i_up, if_neg (by omega), z_fill_at, if_neg (by rw [s2, tT]; omega)]
    exact a2 63 j (by omega)
  have frf : ∀ k, k ≠ 61 → k ≠ 62 → k ≠ 63 → A3 k = A k := fun k b1 b2 b3 => funext fun j => fr k j b1 b2 b3
  have hC : CC A3 ST b := CC_cg h (fun k j b1 b2 b3 b4 => fr k j b2 b3 b4)
  have g70 : A3 70 = A 70 := frf 70 (by omega) (by omega) (by omega)
  have hAB3 : ∀ k, 70 ≤ k → k ≤ 81 → A3 k = B k := fun k b1 b2 => by rw [frf k (by omega) (by omega) (by omega)]; exact hAB k b1 b2
  have h823 : ∀ j, j < 192 → B 82 j = A3 69 j := fun j hj => by rw [frf 69 (by omega) (by omega) (by omega)]; exact h82 j hj
  have h603 : ∀ j, j < 16 → A3 60 j = oV A3 ST (gO A3 (Int32.ofNat j)) := fun j hj => by
    rw [gO_cg (frf 71 (by omega) (by omega) (by omega)) (frf 72 (by omega) (by omega) (by omega)) (frf 75 (by omega) (by omega) (by omega)), oV_cg (frf 73 (by omega) (by omega) (by omega)) (frf 74 (by omega) (by omega) (by omega)), fr 60 j (by omega) (by omega) (by omega)]
    exact h60 j hj
  rw [x2, f61 _ (by omega), hdr_c, i_b1, show (1100 : Nat) = 1095 + 1 + 1 + 1 + 1 + 1 from rfl, lp2_s]
  obtain ⟨f1, e1, o1⟩ := obj_c hC hAB3 hFB h823 h603 (o := 0) (on := 0) rfl (by omega) (wfr (A3 63) (HH (A 60 x.toInt.toNat) (A3 1 4) (A3 1 5 - A3 1 4) (A3 1 6) (A3 1 7 - A3 1 6)) 0 9) (sm_lp2 g_Linker_build_94 (1095 + 1 + 1 + 1 + 1))
  rw [e1, lp2_s]
  obtain ⟨f2, e2, o2⟩ := obj_c hC hAB3 hFB h823 h603 (o := 0 + 1) (on := 1) rfl (by omega) f1 (sm_lp2 g_Linker_build_94 (1095 + 1 + 1 + 1))
  rw [e2, lp2_s]
  obtain ⟨f3, e3, o3⟩ := obj_c hC hAB3 hFB h823 h603 (o := 0 + 1 + 1) (on := 2) rfl (by omega) f2 (sm_lp2 g_Linker_build_94 (1095 + 1 + 1))
  rw [e3, lp2_s]
  obtain ⟨f4, e4, o4⟩ := obj_c hC hAB3 hFB h823 h603 (o := 0 + 1 + 1 + 1) (on := 3) rfl (by omega) f3 (sm_lp2 g_Linker_build_94 (1095 + 1))
  rw [e4, lp2_s, g_Linker_build_94, if_pos (by decide)]
  rw [g70] at o1 o2 o3 o4
  rw [fr 1 4 (by omega) (by omega) (by omega), fr 1 5 (by omega) (by omega) (by omega), fr 1 6 (by omega) (by omega) (by omega), fr 1 7 (by omega) (by omega) (by omega)] at o1
  refine ⟨sm_pt A3 63 f4, by rw [pt_ne (by omega), f62], by rw [pt_ne (by omega), f62], fun j hj => by rw [pt_ne (by omega)]; exact f61 j hj, fun k j b1 b2 b3 => by rw [pt_ne b3]; exact fr k j b1 b2 b3, ?_, ?_, ?_⟩
  · intro i c hi hc
    rw [pt_of, OQ_off (by omega) o4 (Or.inl hi) hc, OQ_off (by omega) o3 (Or.inl hi) hc, OQ_off (by omega) o2 (Or.inl hi) hc, OQ_off (by omega) o1 (Or.inl hi) hc, wfr_at _ _ _ _ _ _ hc, if_pos (by omega)]
    rfl
  · intro q k c hq hk hc
    rw [pt_of]
    rcases (show q % 4 = 0 ∨ q % 4 = 1 ∨ q % 4 = 2 ∨ q % 4 = 3 by omega) with z | z | z | z
    · rw [OQ_out (by omega) o4 hq (by omega) hk hc, OQ_out (by omega) o3 hq (by omega) hk hc, OQ_out (by omega) o2 hq (by omega) hk hc, OQ_in o1 hq z hk hc]
    · rw [OQ_out (by omega) o4 hq (by omega) hk hc, OQ_out (by omega) o3 hq (by omega) hk hc, OQ_in o2 hq z hk hc]
    · rw [OQ_out (by omega) o4 hq (by omega) hk hc, OQ_in o3 hq z hk hc]
    · rw [OQ_in o4 hq z hk hc]
  · intro i c hi hc
    rw [pt_of, OQ_off (by omega) o4 (Or.inr hi) hc, OQ_off (by omega) o3 (Or.inr hi) hc, OQ_off (by omega) o2 (Or.inr hi) hc, OQ_off (by omega) o1 (Or.inr hi) hc, wfr_at _ _ _ _ _ _ hc, if_neg (by omega), f63 _ (by omega)]
