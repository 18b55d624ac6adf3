theorem cpy_m {B : sm_M} {ST : Nat → Int32} (h : ∀ o, o < 4 → NInv B o) (h83 : ∀ i, i < 8 → B 83 i = ST i) (b x : Int32) : ∀ (fu i : Nat) (B' : sm_M) (w : Int32), (∀ k j, k ≠ 84 → k ≠ 85 → B' k j = B k j) → (∀ j, j < i → B' 84 j = (if gO B (Int32.ofNat j) = none then 0 else 1) ∧ B' 85 j = oV B ST (gO B (Int32.ofNat j))) → w.toInt = i → i ≤ 16 → 16 - i < fu → ∃ B2, sm_lp2 (g_Model_link_64 b x) fu B' w = g_Model_link_64 b x (fun _ _ => none) B2 16 ∧ (∀ k j, k ≠ 84 → k ≠ 85 → B2 k j = B k j) ∧ (∀ j, j < 16 → B2 84 j = (if gO B (Int32.ofNat j) = none then 0 else 1) ∧ B2 85 j = oV B ST (gO B (Int32.ofNat j)))
  | 0, i, B', w, _, _, _, _, h => by omega
  | fu + 1, i, B', w, fr, hB, hw, hi, hf => by
    have L16 := L_16
    by_cases c : i = 16
    · subst c
      have : w = 16 := Int32.toInt_inj.mp (by rw [hw]; rfl)
      subst this
      refine ⟨B', ?_, fr, hB⟩
      rw [lp2_s, g_Model_link_64, g_Model_link_64, if_pos (by decide), if_pos (by decide)]
    · have ei := t_inc (x := w) (by omega)
      have w2 : w.toNatClampNeg = i := by rw [t_n]; omega
      have hw2 := of_t hw
      have fr' : ∀ k, k ≠ 84 → k ≠ 85 → B' k = B k := fun k a b => funext fun j => fr k j a b
      have h' : ∀ o, o < 4 → NInv B' o := fun o ho => (h o ho).congr (fun k j z => by unfold ownN at z; exact fr k j (by omega) (by omega))
      have eg : gO B' w = gO B w := gO_cg (fr' 71 (by omega) (by omega)) (fr' 72 (by omega) (by omega)) (fr' 75 (by omega) (by omega)) w
      have nx : ∀ y z : Int32, y = (if gO B w = none then 0 else 1) → z = oV B ST (gO B w) → ∃ B2, sm_lp2 (g_Model_link_64 b x) fu (sm_up (sm_up B' 84 i y) 85 i z) (w + 1) = g_Model_link_64 b x (fun _ _ => none) B2 16 ∧ (∀ k j, k ≠ 84 → k ≠ 85 → B2 k j = B k j) ∧ (∀ j, j < 16 → B2 84 j = (if gO B (Int32.ofNat j) = none then 0 else 1) ∧ B2 85 j = oV B ST (gO B (Int32.ofNat j))) := fun y z hy hz =>
        cpy_m h h83 b x fu (i + 1) _ (w + 1) (fun k j a b => by rw [i_up, if_neg (by omega), i_up, if_neg (by omega)]; exact fr k j a b) (fun j hj => by
          have u1 : (sm_up (sm_up B' 84 i y) 85 i z) 84 j = if j = i then y else B' 84 j := by simp [i_up]
          have u2 : (sm_up (sm_up B' 84 i y) 85 i z) 85 j = if j = i then z else B' 85 j := by simp [i_up]
          rw [u1, u2]
          by_cases q : j = i
          · rw [if_pos q, if_pos q, q, hw2]
            exact ⟨hy, hz⟩
          · rw [if_neg q, if_neg q]
            exact hB j (by omega)) (by omega) (by omega) (by omega)
      rw [lp2_s, g_Model_link_64, if_neg (by rw [t_le]; omega), glo_m h', i_b1, eg]
      have bm := oi_m1 (b := 0) (x := gO B w) (fun d q => by have := gO_lt h q; omega)
      cases e : gO B w with
      | none =>
        rw [if_pos (by rw [oi]), j_Model_link_96, i_gd (by omega) (by omega), i_nm, if_pos (by rw [oi]), i_gd (by omega) (by omega), i_nm, w2]
        exact nx _ _ (by rw [e, if_pos rfl]; rfl) (by rw [e]; rfl)
      | some d =>
        have d32 := gO_lt h e
        have ne : ¬ (oi 0 (some d) = -1) := fun z => by rw [e] at bm; exact absurd (bm.mp z) (by simp)
        rw [if_neg ne, j_Model_link_96, i_gd (by omega) (by omega), i_nm, if_neg ne, oi, Nat.zero_add]
        have h'' : ∀ o, o < 4 → NInv (sm_up B' 84 w.toNatClampNeg (vp_nar .boolean 1)) o := fun o ho => (h' o ho).congr (fun k j z => by unfold ownN at z; rw [i_up, if_neg (by omega)])
        rw [m_val (ST := ST) h'' (fun i hi => by rw [i_up, if_neg (by omega), fr' 83 (by omega) (by omega)]; exact h83 i hi) d32, i_b1, i_gd (by omega) (by omega), i_nm, w2]
        refine nx _ _ (by rw [e, if_neg (by simp)]; rfl) ?_
        rw [e]
        exact vV_cg (funext fun j => by rw [i_up, if_neg (by omega)]; exact fr 73 j (by omega) (by omega)) (funext fun j => by rw [i_up, if_neg (by omega)]; exact fr 74 j (by omega) (by omega)) _
theorem end_s {B : sm_M} {s w y : Int32} {sn o : Nat} (hs : s.toInt = sn) (h2 : sn < 2) (hw : w.toInt = o) (h4 : o < 4) (rec : Int32 → Int32 → Option Int32) : g_Model_end_4 B s rec w y = rec (w + 1) (y + B 70 (2 * o + sn)) := by
  have L4 := L_4
  have m := t_2m (w := w) (by omega) (by omega)
  have e : (2 * w + s).toInt = 2 * o + sn := by rw [t_add] <;> omega
  rw [g_Model_end_4, if_neg (by rw [t_le]; omega), i_gd (by omega) (by omega), i_nm, t_n, show (2 * w + s).toInt.toNat = 2 * o + sn by omega]
theorem end_m (B : sm_M) {s : Int32} {sn : Nat} (hs : s.toInt = sn) (h2 : sn < 2) : f_Model_end B s = some (0 + B 70 (2 * 0 + sn) + B 70 (2 * 1 + sn) + B 70 (2 * 2 + sn) + B 70 (2 * 3 + sn)) := by
  rw [f_Model_end, show (1100 : Nat) = 1095 + 1 + 1 + 1 + 1 + 1 from rfl, lp2_s, end_s hs h2 (o := 0) rfl (by omega), lp2_s, end_s hs h2 (o := 1) (by decide) (by omega), lp2_s, end_s hs h2 (o := 2) (by decide) (by omega), lp2_s, end_s hs h2 (o := 3) (by decide) (by omega), lp2_s, g_Model_end_4, if_pos (by decide)]
theorem stg_4 (S : Nat → Int32) (b : Int32) (s : Nat) : 4 * (0 + S (2 * 0 + s) + S (2 * 1 + s) + S (2 * 2 + s) + S (2 * 3 + s)) = stg s S b 4 - b := by
  simp only [stg]
  grind
theorem lnk_265 {B : sm_M} {g X : Nat → Int32} {a n on sn : Nat} {o s : Int32} (ho : o.toInt = on) (h4 : on < 4) (hs : s.toInt = sn) (h2 : sn < 2) (hn : (B 70 (2 * on + sn)).toInt = n) (h24 : n ≤ 24) (hX : ∀ j, j < n → B 82 (48 * on + 24 * sn + j) = X j) (ha : a + n ≤ 249) (rec256 : sm_M → Int32 → Option (Int32 × sm_M)) : ∀ (fu i : Nat) (w : Int32), w.toInt = i → i ≤ n → n - i < fu → sm_lp2 (g_Model_link_265 o s rec256) fu (im B (wfr g X a i) (a + i)) w = rec256 (im B (wfr g X a n) (a + n)) (o + 1)
  | 0, i, w, _, _, h => by omega
  | fu + 1, i, w, hw, hi, hf => by
    have L24 : (24 : Int32).toInt = 24 := rfl
    have L48 : (48 : Int32).toInt = 48 := rfl
    have m := t_2m (w := o) (by omega) (by omega)
    have e : (2 * o + s).toInt = 2 * on + sn := by rw [t_add] <;> omega
    rw [lp2_s, g_Model_link_265, i_gd (by omega) (by omega), t_n, show (2 * o + s).toInt.toNat = 2 * on + sn by omega, im_at (by omega) (by omega)]
    by_cases c : B 70 (2 * on + sn) ≤ w
    · rw [if_pos c]
      rw [t_le] at c
      rw [show i = n by omega]
    · rw [if_neg c]
      rw [t_le] at c
      have ei := t_inc (x := w) (by omega)
      have e1 : (48 * o).toInt = 48 * on := by rw [t_mul] <;> rw [L48] <;> omega
      have e2 : (24 * s).toInt = 24 * sn := by rw [t_mul] <;> rw [L24] <;> omega
      have e3 : (48 * o + 24 * s).toInt = 48 * on + 24 * sn := by rw [t_add] <;> omega
      have e4 : (48 * o + 24 * s + w).toInt = 48 * on + 24 * sn + i := by rw [t_add] <;> omega
      rw [i_gd (by omega) (by omega), t_n, show (48 * o + 24 * s + w).toInt.toNat = 48 * on + 24 * sn + i by omega, im_at (by omega) (by omega), hX i (by omega), sw_m' B _ (a + i) _ (by omega), i_b1]
      exact lnk_265 ho h4 hs h2 hn h24 hX ha rec256 fu (i + 1) (w + 1) (by omega) (by omega) (by omega)
def gse (B : sm_M) (g : Nat → Int32) : Nat → Nat → Int32
  | 0 => g
  | q + 1 => wfr (gse B g q) (fun p => B 82 (48 * (q % 4) + 24 * (q / 4) + p)) (9 + pre (B 70) q) (nS (B 70) q)
theorem lnk_q {B : sm_M} (sz : szOK (B 70)) {g : Nat → Int32} {o s : Int32} {on sn : Nat} (ho : o.toInt = on) (h4 : on < 4) (hs : s.toInt = sn) (h2 : sn < 2) (rec247 rec256 : sm_M → Int32 → Option (Int32 × sm_M)) : g_Model_link_256 s rec247 rec256 (im B (gse B g (4 * sn + on)) (9 + pre (B 70) (4 * sn + on))) o = rec256 (im B (gse B g (4 * sn + on + 1)) (9 + pre (B 70) (4 * sn + on + 1))) (o + 1) := by
  have L4 := L_4
  have n := nS_le sz (q := 4 * sn + on) (by omega)
  have p := pre_le sz (q := 4 * sn + on) (by omega)
  rw [show (4 * sn + on) % 4 = on by omega, show (4 * sn + on) / 4 = sn by omega] at n
  rw [g_Model_link_256, if_neg (by rw [t_le]; omega), gse, pre]
  have := lnk_265 (B := B) (g := gse B g (4 * sn + on)) (X := fun p => B 82 (48 * ((4 * sn + on) % 4) + 24 * ((4 * sn + on) / 4) + p)) (a := 9 + pre (B 70) (4 * sn + on)) (n := nS (B 70) (4 * sn + on)) ho h4 hs h2 (by omega) (by omega) (fun j hj => by rw [show (4 * sn + on) % 4 = on by omega, show (4 * sn + on) / 4 = sn by omega]) (by omega) rec256 1100 0 0 rfl (by omega) (by omega)
  rw [show 9 + (pre (B 70) (4 * sn + on) + nS (B 70) (4 * sn + on)) = 9 + pre (B 70) (4 * sn + on) + nS (B 70) (4 * sn + on) by omega]
  exact this
theorem lnk_s {B : sm_M} (sz : szOK (B 70)) {g : Nat → Int32} {s : Int32} {sn : Nat} (hs : s.toInt = sn) (h2 : sn < 2) (rec247 : sm_M → Int32 → Option (Int32 × sm_M)) : g_Model_link_247 rec247 (im B (gse B g (4 * sn)) (9 + pre (B 70) (4 * sn))) s = rec247 (im B (gse B g (4 * sn + 4)) (9 + pre (B 70) (4 * sn + 4))) (s + 1) := by
  have L2 := L_2
  rw [g_Model_link_247, if_neg (by rw [t_le]; omega), show (1100 : Nat) = 1095 + 1 + 1 + 1 + 1 + 1 from rfl, lp2_s]
  have k0 : g_Model_link_256 s rec247 (sm_lp2 (g_Model_link_256 s rec247) (1095 + 1 + 1 + 1 + 1)) (im B (gse B g (4 * sn)) (9 + pre (B 70) (4 * sn))) 0 = sm_lp2 (g_Model_link_256 s rec247) (1095 + 1 + 1 + 1 + 1) (im B (gse B g (4 * sn + 1)) (9 + pre (B 70) (4 * sn + 1))) (0 + 1) := lnk_q sz (g := g) (o := 0) (on := 0) rfl (by omega) hs h2 rec247 (sm_lp2 (g_Model_link_256 s rec247) (1095 + 1 + 1 + 1 + 1))
  rw [k0, lp2_s, lnk_q sz (g := g) (o := 0 + 1) (on := 1) rfl (by omega) hs h2, lp2_s]
  rw [show 4 * sn + 1 + 1 = 4 * sn + 2 from rfl, lnk_q sz (g := g) (o := 0 + 1 + 1) (on := 2) (by decide) (by omega) hs h2, lp2_s]
  rw [show 4 * sn + 2 + 1 = 4 * sn + 3 from rfl, lnk_q sz (g := g) (o := 0 + 1 + 1 + 1) (on := 3) (by decide) (by omega) hs h2, lp2_s, g_Model_link_256, if_pos (by decide)]
theorem gse_in {B : sm_M} (g : Nat → Int32) {q k c : Nat} (hk : k < nS (B 70) q) (hc : c < 4) : ∀ {n : Nat}, q < n → gse B g n (4 * (9 + pre (B 70) q + k) + c) = bt c (B 82 (48 * (q % 4) + 24 * (q / 4) + k))
  | 0, h => by omega
  | n + 1, h => by
    rw [gse, wfr_at _ _ _ _ _ _ hc]
    by_cases e : q = n
    · subst e
      rw [if_pos (by omega), show 9 + pre (B 70) q + k - (9 + pre (B 70) q) = k by omega]
    · have := pre_dj (S := B 70) (q := q) (r := n) (k := k) e hk
      rw [if_neg (by omega)]
      exact gse_in g hk hc (by omega)
theorem gse_off {B : sm_M} (g : Nat → Int32) {i c : Nat} (hc : c < 4) : ∀ {n : Nat}, (i < 9 ∨ 9 + pre (B 70) n ≤ i) → gse B g n (4 * i + c) = g (4 * i + c)
  | 0, _ => rfl
  | n + 1, h => by
    rw [pre] at h
    rw [gse, wfr_at _ _ _ _ _ _ hc, if_neg (by omega)]
    exact gse_off g hc (by omega)
theorem hdr_m {B : sm_M} {g X : Nat → Int32} (n : Nat) (w : Int32) (hn : n ≤ 249) (hw : w = X n) : f_Model_bytes (im B (wfr g X 0 n) n) w = some (im B (wfr g X 0 (n + 1)) (n + 1)) := by
  rw [sw_m' B _ n w hn, wfr, hw, Nat.zero_add]
theorem lnk_m {B : sm_M} {ST : Nat → Int32} (h : ∀ o, o < 4 → NInv B o) (sz : szOK (B 70)) (h83 : ∀ i, i < 8 → B 83 i = ST i) (b x : Int32) (hx0 : 0 ≤ x.toInt) (hx1 : x.toInt < 16) : ∃ B', sm_lp2 (g_Model_link_64 b x) 1100 B 0 = some (Int32.ofNat (4 * (9 + pre (B 70) 8)), B') ∧ B' 68 18 = Int32.ofNat (4 * (9 + pre (B 70) 8)) ∧ (∀ j, j < 16 → B' 84 j = (if gO B (Int32.ofNat j) = none then 0 else 1) ∧ B' 85 j = oV B ST (gO B (Int32.ofNat j))) ∧ (∀ k j, k ≠ 84 → k ≠ 85 → k ≠ 86 → ¬ (k = 68 ∧ j = 18) → B' k j = B k j) ∧ (∀ i c, i < 9 → c < 4 → B' 86 (4 * i + c) = bt c (HH (oV B ST (gO B x)) b (stg 0 (B 70) b 4 - b) (ST 1) (stg 1 (B 70) (dS (B 70) b) 4 - dS (B 70) b) i)) ∧ (∀ q k c, q < 8 → k < nS (B 70) q → c < 4 → B' 86 (4 * (9 + pre (B 70) q + k) + c) = bt c (B 82 (48 * (q % 4) + 24 * (q / 4) + k))) ∧ (∀ i c, 9 + pre (B 70) 8 ≤ i → c < 4 → B' 86 (4 * i + c) = B 86 (4 * i + c)) := by
  obtain ⟨B2, a1, a2, a3⟩ := cpy_m h h83 b x 1100 0 B 0 (fun _ _ _ _ => rfl) (fun j hj => by omega) rfl (by omega) (by omega)
  have fr : ∀ k, k ≠ 84 → k ≠ 85 → B2 k = B k := fun k p q => funext fun j => a2 k j p q
  have e70 := fr 70 (by omega) (by omega)
  have e82 := fr 82 (by omega) (by omega)
  have hx2 := of_t (w := x) (i := x.toInt.toNat) (by omega)
  have c0 := stg_4 (B2 70) b 0
  have c1 := stg_4 (B2 70) (dS (B2 70) b) 1
  rw [a1, g_Model_link_64, if_pos (by decide), end_m B2 (s := 0) (sn := 0) rfl (by omega), i_b1, i_nm, end_m B2 (s := 1) (sn := 1) rfl (by omega), i_b1, i_nm, i_gd hx0 (by omega), i_nm, i_nm, c0, c1, t_n, (a3 _ (show x.toInt.toNat < 16 by omega)).2, hx2]
  generalize hX : HH (oV B ST (gO B x)) b (stg 0 (B2 70) b 4 - b) (ST 1) (stg 1 (B2 70) (dS (B2 70) b) 4 - dS (B2 70) b) = X
  have e831 : ∀ (g : Nat → Int32) (m : Nat), im B2 g m 83 (Int32.toNatClampNeg 1) = ST 1 := fun g m => by
    rw [im_at (by omega) (by omega), a2 83 _ (by omega) (by omega)]; exact h83 1 (by omega)
  rw [show sm_up B2 68 18 0 = im B2 (wfr (B2 86) X 0 0) 0 by
    rw [im, wfr, pt_self]; rfl]
  rw [hdr_m 0 _ (by omega) (by rw [← hX]; rfl), i_b1, hdr_m 1 _ (by omega) (by rw [← hX]; rfl), i_b1, hdr_m 2 _ (by omega) (by rw [← hX]; rfl), i_b1, hdr_m 3 _ (by omega) (by rw [← hX]; rfl), i_b1, hdr_m 4 _ (by omega) (by rw [← hX]; rfl), i_b1, i_gd (by decide) (by decide), e831, hdr_m 5 _ (by omega) (by rw [← hX]; rfl), i_b1, hdr_m 6 _ (by omega) (by rw [← hX]; rfl), i_b1, hdr_m 7 _ (by omega) (by rw [← hX]; rfl), i_b1, i_gd (by decide) (by decide), e831, hdr_m 8 _ (by omega) (by rw [← hX]; rfl), i_b1]
  have sz2 : szOK (B2 70) := by rw [e70]; exact sz
  have k0 := lnk_s sz2 (g := wfr (B2 86) X 0 9) (s := 0) (sn := 0) rfl (by omega) (sm_lp2 g_Model_link_247 (1097 + 1 + 1))
  have k1 := lnk_s sz2 (g := wfr (B2 86) X 0 9) (s := 0 + 1) (sn := 1) rfl (by omega) (sm_lp2 g_Model_link_247 (1097 + 1))
  rw [show (8 : Nat) + 1 = 9 from rfl, show (1100 : Nat) = 1097 + 1 + 1 + 1 from rfl, lp2_s]
  refine Exists.intro (im B2 (gse B2 (wfr (B2 86) X 0 9) 8) (9 + pre (B2 70) 8)) ⟨?_, ?_, ?_, ?_, ?_, ?_, ?_⟩
  · refine Eq.trans k0 ?_
    rw [lp2_s]
    refine Eq.trans k1 ?_
    rw [lp2_s, g_Model_link_247, if_pos (by decide), im_18, e70]
  · rw [im_18, e70]
  · intro j hj
    rw [im_at (by omega) (by omega), im_at (by omega) (by omega)]
    exact a3 j hj
  · intro k j p q r s
    rw [im_at r s]
    exact a2 k j p q
  · intro i c hi hc
    rw [im_86, gse_off _ hc (Or.inl hi), wfr_at _ _ _ _ _ _ hc, if_pos (by omega), ← hX, e70]
    rfl
  · intro q k c hq hk hc
    rw [im_86, ← e70, gse_in _ (by rw [e70]; exact hk) hc hq, e82]
  · intro i c hi hc
    rw [im_86, gse_off _ hc (Or.inr (by rw [e70]; exact hi)), wfr_at _ _ _ _ _ _ hc, if_neg (by omega), fr 86 (by omega) (by omega)]
