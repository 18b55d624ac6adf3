theorem LK_cg {A B : sm_M} {ST : Nat → Int32} (hr : ∀ k, 71 ≤ k → k ≤ 81 → A k = B k) (h82 : ∀ j, j < 192 → A 82 j = B 82 j) (hF : ∀ o, o < 4 → FInv B o) : ∀ (f : Nat), f ≤ 64 → ∀ j, j < 192 → LK A ST f j = LK B ST f j
  | 0, _, j, hj => h82 j hj
  | f + 1, hf, j, hj => by
    have ih := LK_cg (ST := ST) hr h82 hF f (by omega)
    have ta : there A f ↔ there B f := by unfold there; rw [hr 76 (by omega) (by omega)]
    have ea : atF A f = atF B f := by unfold atF; rw [hr 77 (by omega) (by omega), hr 78 (by omega) (by omega)]
    have ia := atF_in hF (f := f) (by omega)
    by_cases t : there B f
    · rw [LK_yes t, LK_yes (ta.mpr t), ea, hr 79 (by omega) (by omega), vF_cg hr, pF_cg hr, ih (atF B f) (by omega), ih j hj]
    · rw [LK_no t, LK_no (fun z => t (ta.mp z)), ih j hj]
theorem bel_2 (a m : Int32) : f_Mill_isBelow a m = some 0 ∨ (f_Mill_isBelow a m = some 1 ∧ 0 ≤ a.toInt ∧ a.toInt < m.toInt) := by
  rw [f_Mill_isBelow]
  by_cases h : a < 0
  · rw [if_pos h]; exact Or.inl rfl
  · rw [if_neg h]
    by_cases g : m ≤ a
    · rw [if_pos g]; exact Or.inl rfl
    · rw [if_neg g]
      rw [t_lt, t_0] at h
      rw [t_le] at g
      exact Or.inr ⟨rfl, by omega, by omega⟩
theorem lnk_bad {n : Nat} {M : sm_M} (h : Inv n M) (o : sm_O) (a0 a1 : Int32) (hc : f_Mill_link M a0 a1 = some (.inr 1)) (hm : f_Model_link M a0 a1 = j_Model_link_27 M a0 a1) : opOK n (f_Law_link M o a0 a1) (fun M1 => f_Model_link M1 a0 a1) := by
  refine ⟨1, M, o, 0, sm_up M 68 0 1, ?_, ?_, ?_, fun z => absurd z (by decide), h.thr 1⟩
  · rw [f_Law_link, hc]; rfl
  · show f_Model_link M a0 a1 = _
    rw [hm, j_Model_link_27, j_Model_link_32, i_nm, if_neg]
    rw [i_up, if_pos ⟨rfl, rfl⟩]; decide
  · rw [i_up, if_pos ⟨rfl, rfl⟩]
def stF (S : Nat → Int32) (b : Int32) (i : Nat) : Int32 := if i % 2 = 0 then stg 0 S b (i / 2) else stg 1 S (dS S b) (i / 2)
theorem op_link {n : Nat} {M : sm_M} (h : Inv n M) (o : sm_O) (a0 a1 : Int32) : opOK n (f_Law_link M o a0 a1) (fun M1 => f_Model_link M1 a0 a1) := by
  by_cases c1 : a0 < 0
  · exact lnk_bad h o a0 a1 (by rw [f_Mill_link, if_pos c1]) (by rw [f_Model_link, if_pos c1])
  by_cases c2 : (1000000000 : Int32) < a0
  · exact lnk_bad h o a0 a1 (by rw [f_Mill_link, if_neg c1, if_pos c2]) (by rw [f_Model_link, if_neg c1, if_pos c2])
  by_cases c3 : a0 - a0 / 4 * 4 = 0
  case neg => exact lnk_bad h o a0 a1 (by rw [f_Mill_link, if_neg c1, if_neg c2, if_neg c3]) (by rw [f_Model_link, if_neg c1, if_neg c2, if_neg c3])
  have uw := u_within a1 15 (by decide)
  rw [show (15 : Int32) + 1 = 16 from rfl] at uw
  rcases bel_2 a1 16 with c4 | ⟨c4, x0, x1⟩
  · exact lnk_bad h o a0 a1 (by rw [f_Mill_link, if_neg c1, if_neg c2, if_pos c3, c4, i_b1, if_pos rfl]) (by rw [f_Model_link, if_neg c1, if_neg c2, if_pos c3, uw, c4, i_b1, if_pos rfl])
  rw [L_16] at x1
  have b0 : 0 ≤ a0.toInt := by rw [t_lt, t_0] at c1; omega
  have b1 : a0.toInt ≤ 1000000000 := by
    have : (1000000000 : Int32).toInt = 1000000000 := rfl
    rw [t_lt] at c2; omega
  obtain ⟨A1, l1, l2, l3, l4, l5, l6, l7, l8⟩ := lay_o M a0 (M 70) (fun o ho => (h.P o ho).C.cc) (fun o ho => (h.P o ho).D.dc)
  have hP1 : ∀ o, o < 4 → PInv A1 o := fun o ho => (h.P o ho).congr (fun k j w => by unfold ownP at w; exact l8 k j (by omega) (by omega))
  have g59 : ∀ o s, o < 4 → s < 2 → A1 59 (4 * s + o) = stF (M 70) a0 (2 * o + s) := fun o s ho hs => by
    rcases (show s = 0 ∨ s = 1 by omega) with z | z
    · subst z
      rw [stF, if_pos (by omega), show (2 * o + 0) / 2 = o by omega, show 4 * 0 + o = o by omega]; exact l6 o ho
    · subst z
      rw [stF, if_neg (by omega), show (2 * o + 1) / 2 = o by omega]; exact l7 o ho
  obtain ⟨A2, m1, m2, m3⟩ := fgl_l (ST := stF (M 70) a0) (fun o ho => (hP1 o ho).N) g59 1100 0 A1 0 (fun _ _ _ => rfl) (fun j hj => by omega) rfl (by omega) (by omega)
  have fA : ∀ k j, k ≠ 1 → k ≠ 59 → k ≠ 60 → A2 k j = M k j := fun k j p q r => by rw [m2 k j r]; exact l8 k j p q
  have fAf : ∀ k, k ≠ 1 → k ≠ 59 → k ≠ 60 → A2 k = M k := fun k p q r => funext fun j => fA k j p q r
  have e70 : A2 70 = M 70 := fAf 70 (by omega) (by omega) (by omega)
  have hC : CC A2 (stF (M 70) a0) a0 := by
    refine ⟨by rw [m2 1 4 (by omega)]; exact l2, by rw [m2 1 5 (by omega), e70]; exact l3, by rw [m2 1 6 (by omega), e70]; exact l4, by rw [m2 1 7 (by omega), e70]; exact l5, fun o s p q => by rw [m2 59 _ (by omega)]; exact g59 o s p q, fun o p => by rw [stF, if_pos (by omega), show 2 * o / 2 = o by omega, e70], fun o p => by rw [stF, if_neg (by omega), show (2 * o + 1) / 2 = o by omega, e70], fun o ho => (hP1 o ho).congr (fun k j w => by unfold ownP at w; exact m2 k j (by omega)), b0, b1⟩
  have sz := CC_sz hC
  have ok := CC_ok hC
  have hP2 := hC.2.2.2.2.2.2.2.1
  have h59 := hC.2.2.2.2.1
  have h60 : ∀ j, j < 16 → A2 60 j = fG A2 (stF (M 70) a0) (Int32.ofNat j) := fun j hj => by
    rw [m3 j hj]; exact (fG_cg (fun k p q => funext fun i => m2 k i (by omega)) _).symm
  obtain ⟨B0, hB0⟩ : ∃ B0 : sm_M, B0 = sm_pt (sm_pt A2 82 (A2 69)) 83 (stF (M 70) a0) := ⟨_, rfl⟩
  have fB : ∀ k, k ≠ 82 → k ≠ 83 → B0 k = A2 k := fun k p q => by rw [hB0, pt_ne q, pt_ne p]
  have hPB : ∀ o, o < 4 → PInv B0 o := fun o ho => (hP2 o ho).congr (fun k j w => by unfold ownP at w; rw [fB k (by omega) (by omega)])
  obtain ⟨r, L, r1, -, r3⟩ := ref_all (A := A2) (B := B0) ok (fun o ho => (hP2 o ho).N) (fun o ho => (hP2 o ho).F) (fun o ho => (hPB o ho).N) (fun o ho => (hPB o ho).F) (fun k p q => (fB k (by omega) (by omega)).symm) h59 h60 (fun i hi => by rw [hB0, pt_of]) x0 x1
  have hbuild : f_Linker_build M a0 a1 = if r = 0 then sm_lp2 (g_Linker_build_27 a1) 1100 A2 0 else some (r, A2) := by
    have m1' : f_Linker_findGlobals A1 = some A2 := m1
    rw [f_Linker_build, l1, i_b1, m1', i_b1, r1, i_b1]
  have hmill : f_Mill_link M a0 a1 = sm_b2 (f_Linker_build M a0 a1) fun r43_9 M43_10 => some (.inl (r43_9, M43_10)) := by
    rw [f_Mill_link, if_neg c1, if_neg c2, if_pos c3, c4, i_b1, if_neg (by decide)]
  have hmodel : ∀ A3 : sm_M, (∀ k j, 68 ≤ k → A3 k j = A2 k j) → (∀ k j, k < 59 → k ≠ 1 → A3 k j = A2 k j) → ∃ B2 L, (∀ k j, k ≠ 82 → k ≠ 83 → ¬ (k = 68 ∧ j = 0) → B2 k j = A3 k j) ∧ B2 68 0 = 0 ∧ (∀ i, i < 8 → B2 83 i = stF (M 70) a0 i) ∧ (∀ j, j < 192 → B2 82 j = A2 69 j) ∧ f_Model_link A3 a0 a1 = (if 0 ≤ r then sm_lp2 (g_Model_link_64 a0 a1) 1100 (sm_pt B2 82 L) 0 else some (r, sm_pt B2 82 L)) ∧ (r.toInt < 0 ∨ (L = LK B2 (stF (M 70) a0) 64)) := by
    intro A3 g1 g2
    obtain ⟨B2, q1, q2, q3, q4, q5⟩ := beg_o (sm_up A3 68 0 0) a0
    have t70 : sm_up A3 68 0 0 70 = M 70 := funext fun j => by rw [i_up, if_neg (by omega), g1 70 j (by omega), e70]
    rw [t70] at q2 q3
    have fr : ∀ k j, k ≠ 82 → k ≠ 83 → ¬ (k = 68 ∧ j = 0) → B2 k j = A3 k j := fun k j p q s => by rw [q5 k j p q, i_up, if_neg s]
    have hPB2 : ∀ o, o < 4 → PInv B2 o := fun o ho => (hP2 o ho).congr (fun k j w => by
      unfold ownP at w
      rw [fr k j (by omega) (by omega) (by omega)]
      by_cases z : 68 ≤ k
      · exact g1 k j z
      · exact g2 k j (by omega) (by omega))
    have h83 : ∀ i, i < 8 → B2 83 i = stF (M 70) a0 i := fun i hi => by
      rw [stF]
      by_cases z : i % 2 = 0
      · rw [if_pos z, ← q2 (i / 2) (by omega), show 2 * (i / 2) = i by omega]
      · rw [if_neg z, ← q3 (i / 2) (by omega), show 2 * (i / 2) + 1 = i by omega]
    obtain ⟨r', L', s1, s2, s3⟩ := ref_all (A := A2) (B := B2) ok (fun o ho => (hP2 o ho).N) (fun o ho => (hP2 o ho).F) (fun o ho => (hPB2 o ho).N) (fun o ho => (hPB2 o ho).F) (fun k p q => funext fun j => by rw [fr k j (by omega) (by omega) (by omega)]; exact (g1 k j (by omega)).symm) h59 h60 h83 x0 x1
    have er : r' = r := by rw [r1] at s1; exact (Option.some.inj s1).symm
    subst er
    refine ⟨B2, L', fr, ?_, h83, ?_, ?_, ?_⟩
    · rw [q5 68 0 (by omega) (by omega), i_up, if_pos ⟨rfl, rfl⟩]
    · intro j hj
      rw [q4 j hj, i_up, if_neg (by omega)]; exact g1 69 j (by omega)
    · rw [f_Model_link, if_neg c1, if_neg c2, if_pos c3, uw, c4, i_b1, if_neg (by decide), j_Model_link_32, i_nm, if_pos (by rw [i_up, if_pos ⟨rfl, rfl⟩]; decide), q1, i_b1, s2, i_b2]
    · rcases s3 with z | z
      · exact Or.inl z
      · exact Or.inr z.2.1
  by_cases hr : r.toInt < 0
  · -- refused
    have rne : ¬ r = 0 := fun z => by rw [z, t_0] at hr; omega
    rw [if_neg rne] at hbuild
    obtain ⟨B2, L2, k1, k2, k3, k4, k5, k6⟩ := hmodel A2 (fun _ _ _ => rfl) (fun _ _ _ _ => rfl)
    refine ⟨0, A2, vp_updL o 0 (Int32.toInt64 r), r, sm_pt B2 82 L2, ?_, ?_, ?_, fun _ => ?_, ?_⟩
    · rw [f_Law_link, hmill, hbuild]; rfl
    · show f_Model_link A2 a0 a1 = _
      rw [k5, if_neg (by rw [t_le, t_0]; omega)]
    · rw [pt_ne (by omega)]; exact k2
    · simp [vp_updL]
    · exact h.congr (fun k j p q s t u v => by rw [pt_ne q, k1 k j q s p]; exact fA k j v t u)
  · have r0 : r = 0 := by
      rcases r3 with z | z
      · exact absurd z hr
      · exact z.1
    have r3' := r3.resolve_left hr
    have h60' : ∀ j, j < 16 → A2 60 j = oV A2 (stF (M 70) a0) (gO A2 (Int32.ofNat j)) := fun j hj => by
      rw [r3'.2.2.2.1 j hj, gO_cg (fB 71 (by omega) (by omega)) (fB 72 (by omega) (by omega)) (fB 75 (by omega) (by omega)), oV_cg (fB 73 (by omega) (by omega)) (fB 74 (by omega) (by omega))]
    have s62 : A2 62 1 = M 62 1 := fA 62 1 (by omega) (by omega) (by omega)
    obtain ⟨A3, w1, w2, w3, w4, w5, w6, w7⟩ := bld_c (B := B0) hC (fun k p q => (fB k (by omega) (by omega)).symm) (fun o ho => (hPB o ho).F) (fun j hj => by rw [hB0, pt_ne (by omega), pt_of]) h60' x0 x1 (by rw [s62, h.I.sz]; exact h.I.szr.1) (by rw [s62, h.I.sz]; exact h.I.szr.2)
    rw [if_pos r0, w1] at hbuild
    obtain ⟨B2, L2, k1, k2, k3, k4, k5, k6⟩ := hmodel A3 (fun k j p => w4 k j (by omega) (by omega) (by omega)) (fun k j p q => w4 k j (by omega) (by omega) (by omega))
    have k6' : L2 = LK B2 (stF (M 70) a0) 64 := k6.resolve_left hr
    have f23 : ∀ k, 69 ≤ k → k ≤ 81 → B2 k = A2 k := fun k p q => funext fun j => by rw [k1 k j (by omega) (by omega) (by omega)]; exact w4 k j (by omega) (by omega) (by omega)
    have f3 : ∀ k, k ≠ 82 → sm_pt B2 82 L2 k = B2 k := fun k p => pt_ne p
    have f33 : ∀ k, 69 ≤ k → k ≤ 81 → sm_pt B2 82 L2 k = A2 k := fun k p q => by rw [f3 k (by omega)]; exact f23 k p q
    have hP3 : ∀ o, o < 4 → PInv (sm_pt B2 82 L2) o := fun o ho => (hP2 o ho).congr (fun k j w => by
      unfold ownP at w
      rw [f3 k (by omega), k1 k j (by omega) (by omega) (by omega)]
      exact w4 k j (by omega) (by omega) (by omega))
    have s70 : sm_pt B2 82 L2 70 = A2 70 := f33 70 (by omega) (by omega)
    obtain ⟨B4, y1, y2, y3, y4, y5, y6, y7⟩ := lnk_m (B := sm_pt B2 82 L2) (ST := stF (M 70) a0) (fun o ho => (hP3 o ho).N) (by rw [s70]; exact sz) (fun i hi => by rw [f3 83 (by omega)]; exact k3 i hi) a0 a1 x0 x1
    rw [s70] at y1 y2 y5 y6 y7
    have eg : ∀ x, gO (sm_pt B2 82 L2) x = gO A2 x := fun x => gO_cg (f33 71 (by omega) (by omega)) (f33 72 (by omega) (by omega)) (f33 75 (by omega) (by omega)) x
    have eo : ∀ y, oV (sm_pt B2 82 L2) (stF (M 70) a0) y = oV A2 (stF (M 70) a0) y := fun y => oV_cg (f33 73 (by omega) (by omega)) (f33 74 (by omega) (by omega)) y
    have fin : ∀ k j, k ≠ 1 → k ≠ 59 → k ≠ 60 → k ≠ 61 → k ≠ 62 → k ≠ 63 → k ≠ 82 → k ≠ 83 → k ≠ 84 → k ≠ 85 → k ≠ 86 → ¬ (k = 68 ∧ (j = 0 ∨ j = 18)) → B4 k j = M k j := fun k j e1 e2 e3 e4 e5 e6 e7 e8 e9 e10 e11 e12 => by
      rw [y4 k j e9 e10 e11 (by omega), f3 k e7, k1 k j e7 e8 (by omega), w4 k j e4 e5 e6]
      exact fA k j e1 e2 e3
    have cl : ∀ k j, k < 68 → B4 k j = A3 k j := fun k j p => by
      rw [y4 k j (by omega) (by omega) (by omega) (by omega), f3 k (by omega), k1 k j (by omega) (by omega) (by omega)]
    have tT := t_of (n := 4 * (9 + pre (A2 70) 8)) (by have := pre_le sz (q := 8) (by omega); omega)
    have p8 := pre_le sz (q := 8) (by omega)
    refine ⟨0, A3, vp_updL o 0 (Int32.toInt64 (Int32.ofNat (4 * (9 + pre (A2 70) 8)))), Int32.ofNat (4 * (9 + pre (A2 70) 8)), B4, ?_, ?_, ?_, fun _ => ?_, ?_⟩
    · rw [f_Law_link, hmill, hbuild]; rfl
    · show f_Model_link A3 a0 a1 = _
      rw [k5, if_pos (by rw [r0]; decide), y1]
    · rw [y4 68 0 (by omega) (by omega) (by omega) (by omega), f3 68 (by omega)]; exact k2
    · simp [vp_updL]
    · refine ⟨fun o' ho' => (h.P o' ho').congr (fun k j w => by unfold ownP at w; exact fin k j (by omega) (by omega) (by omega) (by omega) (by omega) (by omega) (by omega) (by omega) (by omega) (by omega) (by omega) (by omega)), ⟨?_, ?_⟩, ⟨?_, ?_, ?_⟩, h.K.congr (fun k j w => by unfold ownM at w; exact fin k j (by omega) (by omega) (by omega) (by omega) (by omega) (by omega) (by omega) (by omega) (by omega) (by omega) (by omega) (by omega))⟩
      · intro j hj
        rw [cl 61 j (by omega), w3 j hj, h60' j hj, (y3 j hj).1, (y3 j hj).2, eg, eo]
        cases e : gO A2 (Int32.ofNat j) with
        | none => rw [if_pos rfl, if_pos rfl]; rfl
        | some d => rw [if_neg (show ¬ (some d = none) by simp), if_neg (by decide)]
      · intro j hj
        rw [(y3 j hj).1]
        split
        · exact Or.inl rfl
        · exact Or.inr rfl
      · rw [cl 62 1 (by omega), w2, y2]
      · rw [y2]; omega
      · intro j hj
        rw [cl 63 j (by omega)]
        have ej : j = 4 * (j / 4) + j % 4 := by omega
        have hc4 : j % 4 < 4 := by omega
        generalize j / 4 = i at ej
        generalize j % 4 = c at ej hc4
        subst ej
        by_cases i9 : i < 9
        · rw [w5 i c i9 hc4, y5 i c i9 hc4, h60' _ (by omega), of_t (w := a1) (i := a1.toInt.toNat) (by omega), eg, eo, hC.1, hC.2.1, hC.2.2.1, hC.2.2.2.1]
          congr 2
          rw [stF, if_neg (by omega)]
          rw [e70]
          rfl
        · by_cases i8 : 9 + pre (A2 70) 8 ≤ i
          · rw [w7 i c i8 hc4, y7 i c i8 hc4, f3 86 (by omega), k1 86 _ (by omega) (by omega) (by omega), w4 86 _ (by omega) (by omega) (by omega), fA 86 _ (by omega) (by omega) (by omega), fA 63 _ (by omega) (by omega) (by omega)]
            exact h.I.im _ hj
          · obtain ⟨q, k, z1, z2, z3⟩ := pre_ex (S := A2 70) (n := 8) (i := i - 9) (by omega)
            have ei : i = 9 + pre (A2 70) q + k := by omega
            have nq := (nS_le sz (q := q) z1).1
            rw [ei, w6 q k c z1 z2 hc4, y6 q k c z1 z2 hc4, pt_of, k6']
            congr 1
            exact LK_cg (A := B0) (B := B2) (fun k' p q => by rw [fB k' (by omega) (by omega)]; exact (f23 k' (by omega) q).symm) (fun j' hj' => by rw [k4 j' hj', hB0, pt_ne (by omega), pt_of]) (fun o' ho' => ((hP3 o' ho').F).congr (fun k' j' w => by unfold ownF at w; rw [f3 k' (by omega)])) 64 (by omega) _ (by omega)
