def OQ (S : Nat → Int32) (o : Nat) (L f f0 : Nat → Int32) : Prop := (∀ s p c, s < 2 → p < nS S (4 * s + o) → c < 4 → f (4 * (9 + pre S (4 * s + o) + p) + c) = bt c (L (48 * o + 24 * s + p))) ∧ (∀ i c, c < 4 → (∀ s, s < 2 → ¬ (9 + pre S (4 * s + o) ≤ i ∧ i < 9 + pre S (4 * s + o) + nS S (4 * s + o))) → f (4 * i + c) = f0 (4 * i + c))
theorem pre_inj {S : Nat → Int32} {q r k j : Nat} (hk : k < nS S q) (hj : j < nS S r) (e : pre S q + k = pre S r + j) : q = r ∧ k = j := by
  by_cases h : q = r
  · subst h; exact ⟨rfl, by omega⟩
  · exact absurd ⟨by omega, by omega⟩ (pre_dj h hk)
theorem LK_no {B : sm_M} {ST : Nat → Int32} {f : Nat} (h : ¬ there B f) : LK B ST (f + 1) = LK B ST f := by rw [LK, if_neg h]
theorem LK_yes {B : sm_M} {ST : Nat → Int32} {f : Nat} (h : there B f) (j : Nat) : LK B ST (f + 1) j = if j = atF B f then fixd (B 79 f) (LK B ST f (atF B f)) (vF B ST f) (pF B ST f) else LK B ST f j := by rw [LK, if_pos h]
theorem atF_in {B : sm_M} (hF : ∀ o, o < 4 → FInv B o) {f : Nat} (hf : f < 64) : 48 * (f / 16) ≤ atF B f ∧ atF B f < 48 * (f / 16) + 48 := by
  have a := fs_t hF hf
  have b := fp_t hF hf
  unfold atF
  omega
theorem LK_reg {B : sm_M} {ST : Nat → Int32} (hF : ∀ o, o < 4 → FInv B o) {f o j : Nat} (hf : f < 64) (ho : f / 16 ≠ o) (h1 : 48 * o ≤ j) (h2 : j < 48 * o + 48) : LK B ST (f + 1) j = LK B ST f j := by
  by_cases t : there B f
  · have := atF_in hF hf
    rw [LK_yes t, if_neg (by omega)]
  · rw [LK_no t]
theorem LK_lo {B : sm_M} {ST : Nat → Int32} (hF : ∀ o, o < 4 → FInv B o) {o j : Nat} (ho : o < 4) (h1 : 48 * o ≤ j) (h2 : j < 48 * o + 48) : ∀ f, f ≤ 16 * o → LK B ST f j = B 82 j
  | 0, _ => rfl
  | f + 1, h => by rw [LK_reg hF (o := o) (by omega) (by omega) h1 h2, LK_lo hF ho h1 h2 f (by omega)]
theorem LK_hi {B : sm_M} {ST : Nat → Int32} (hF : ∀ o, o < 4 → FInv B o) {o j : Nat} (ho : o < 4) (h1 : 48 * o ≤ j) (h2 : j < 48 * o + 48) : ∀ d, 16 * o + 16 + d ≤ 64 → LK B ST (16 * o + 16 + d) j = LK B ST (16 * o + 16) j
  | 0, _ => rfl
  | d + 1, h => by rw [show 16 * o + 16 + (d + 1) = (16 * o + 16 + d) + 1 by omega, LK_reg hF (o := o) (by omega) (by omega) h1 h2, LK_hi hF ho h1 h2 d (by omega)]
theorem LK_end {B : sm_M} {ST : Nat → Int32} {o nf : Nat} (hn : (B 76 o).toInt = nf) : ∀ d, nf + d ≤ 16 → LK B ST (16 * o + (nf + d)) = LK B ST (16 * o + nf)
  | 0, _ => rfl
  | d + 1, h => by
    rw [show 16 * o + (nf + (d + 1)) = (16 * o + (nf + d)) + 1 by omega, LK_no (by unfold there; rw [show (16 * o + (nf + d)) / 16 = o by omega, show (16 * o + (nf + d)) % 16 = nf + d by omega]; omega), LK_end hn d (by omega)]
theorem mkf_l {A B : sm_M} {ST : Nat → Int32} {b : Int32} (h : CC A ST b) (hAB : ∀ k, 70 ≤ k → k ≤ 81 → A k = B k) (h60 : ∀ j, j < 16 → A 60 j = oV A ST (gO A (Int32.ofNat j))) {o : Int32} {on : Nat} (ho : o.toInt = on) (h4 : on < 4) {f0 : Nat → Int32} : ∀ (fu k : Nat) (w : Int32) (f : Nat → Int32), w.toInt = k → k ≤ (A 76 on).toInt.toNat → (A 76 on).toInt.toNat - k < fu → OQ (A 70) on (LK B ST (16 * on + k)) f f0 → ∃ f', sm_lp2 (g_Linker_makeFixes_2 o) fu (sm_pt A 63 f) w = some (sm_pt A 63 f') ∧ OQ (A 70) on (LK B ST (16 * on + (A 76 on).toInt.toNat)) f' f0
  | 0, k, w, f, _, _, h, _ => by omega
  | fu + 1, k, w, f, hw, hk, hf, hQ => by
    have sz := CC_sz h
    have hp := CC_pt h f
    have hP := h.2.2.2.2.2.2.2.1
    have hPp := hp.2.2.2.2.2.2.2.1
    have h59 := hp.2.2.2.2.1
    have o2 : o.toNatClampNeg = on := by rw [t_n]; omega
    obtain ⟨n1, n2⟩ := (hP on h4).F.nfr
    have fr : ∀ k', k' ≠ 63 → sm_pt A 63 f k' = A k' := fun k' hk' => pt_ne hk'
    have fr2 : ∀ k', 71 ≤ k' → k' ≤ 81 → sm_pt A 63 f k' = B k' := fun k' a c => by rw [fr k' (by omega)]; exact hAB k' (by omega) c
    have hNp : ∀ o, o < 4 → NInv (sm_pt A 63 f) o := fun o ho => (hPp o ho).N
    have hFp : ∀ o, o < 4 → FInv (sm_pt A 63 f) o := fun o ho => (hPp o ho).F
    have hF : ∀ o, o < 4 → FInv A o := fun o ho => (hP o ho).F
    have h60p : ∀ j, j < 16 → sm_pt A 63 f 60 j = oV (sm_pt A 63 f) ST (gO (sm_pt A 63 f) (Int32.ofNat j)) := fun j hj => by
      rw [gO_cg (fr 71 (by omega)) (fr 72 (by omega)) (fr 75 (by omega)), oV_cg (fr 73 (by omega)) (fr 74 (by omega)), fr 60 (by omega)]; exact h60 j hj
    rw [lp2_s, g_Linker_makeFixes_2, i_gd (by omega) (by omega), i_nm, o2, fr _ (by omega), (hF on h4).nf]
    by_cases c : A 76 on ≤ w
    · rw [if_pos c]
      rw [t_le] at c
      exact ⟨f, rfl, by rw [show (A 76 on).toInt.toNat = k by omega]; exact hQ⟩
    · rw [if_neg c]
      rw [t_le] at c
      have ei := t_inc (x := w) (by omega)
      have w2 : w.toNatClampNeg = k := by rw [t_n]; omega
      have a1 := fs_t hF (f := 16 * on + k) (by omega)
      have a2 := fp_t hF (f := 16 * on + k) (by omega)
      have x : (A 78 (16 * on + k)).toInt < (A 70 (2 * on + (A 77 (16 * on + k)).toInt.toNat)).toInt := by
        rcases (hF on h4).fsr k (by omega) with z | z
        · rw [z]; exact (hP on h4).X.xc k (by omega) (by omega) z
        · rw [z]; exact (hP on h4).X.xd k (by omega) (by omega) z
      obtain ⟨sn, hsn⟩ : ∃ sn : Nat, (A 77 (16 * on + k)).toInt.toNat = sn := ⟨_, rfl⟩
      obtain ⟨pn, hpn⟩ : ∃ pn : Nat, (A 78 (16 * on + k)).toInt.toNat = pn := ⟨_, rfl⟩
      have n := nS_le sz (q := 4 * sn + on) (by omega)
      rw [show (4 * sn + on) % 4 = on by omega, show (4 * sn + on) / 4 = sn by omega] at n
      rw [hsn] at x
      have pq := pre_le sz (q := 4 * sn + on) (by omega)
      obtain ⟨r, r1, r2⟩ := byt_c hp (s := A 77 (16 * on + k)) (p := A 78 (16 * on + k)) (sn := sn) (pn := pn) h4 (by omega) (by omega) (by omega) (by omega)
      rw [fr 70 (by omega)] at r2
      have epF : pF (sm_pt A 63 f) ST (16 * on + k) = ST (2 * on + sn) + 4 * A 78 (16 * on + k) := by
        unfold pF
        rw [fr 77 (by omega), fr 78 (by omega), hsn, show (16 * on + k) / 16 = on by omega]
      have eat : atF B (16 * on + k) = 48 * on + 24 * sn + pn := by
        unfold atF
        rw [← hAB 77 (by omega) (by omega), ← hAB 78 (by omega) (by omega), hsn, hpn, show (16 * on + k) / 16 = on by omega]
      have hw1 : wd f (4 * (9 + pre (A 70) (4 * sn + on) + pn)) = LK B ST (16 * on + k) (48 * on + 24 * sn + pn) := wd_bt (fun c hc => hQ.1 sn pn c (by omega) (by omega) hc)
      have th : there B (16 * on + k) := by
        unfold there
        rw [← hAB 76 (by omega) (by omega), show (16 * on + k) / 16 = on by omega, show (16 * on + k) % 16 = k by omega]
        omega
      rw [fxa_c hFp h59 ho h4 hw (by omega), i_b1, i_gd (by omega) (by omega), i_nm, i_gd (by omega) (by omega), w2, (hFp on h4).fs k (by omega), fr 77 (by omega), epF, r1, i_b1, i_gd (by omega) (by omega), i_nm, i_gd (by omega) (by omega), (hFp on h4).fk k (by omega), fr 79 (by omega), w_im _ r (by omega) (by omega), i_b1, pt_of, show r.toInt.toNat = 4 * (9 + pre (A 70) (4 * sn + on) + pn) by omega, hw1, fxv_c hNp hFp h59 h60p ho h4 hw (by omega), i_b1, fix_c, i_b1, sw_c' A f r _ (9 + pre (A 70) (4 * sn + on) + pn) (by omega) (by omega), i_b1, ← epF, vF_cg fr2, pF_cg fr2, hAB 79 (by omega) (by omega)]
      refine mkf_l h hAB h60 ho h4 fu (k + 1) (w + 1) _ (by omega) (by omega) (by omega) ⟨?_, ?_⟩
      · intro s p c hs hp' hc
        rw [ws_at _ _ _ _ _ hc, show 16 * on + (k + 1) = (16 * on + k) + 1 by omega, LK_yes th, eat]
        have nn := nS_le sz (q := 4 * s + on) (by omega)
        by_cases z : 9 + pre (A 70) (4 * sn + on) + pn = 9 + pre (A 70) (4 * s + on) + p
        · have zz := pre_inj (S := A 70) (q := 4 * sn + on) (r := 4 * s + on) (k := pn) (j := p) (by omega) hp' (by omega)
          rw [if_pos z, if_pos (by omega)]
        · have zz : ¬ (48 * on + 24 * s + p = 48 * on + 24 * sn + pn) := fun y => z (by
            have y1 : s = sn := by omega
            have y2 : p = pn := by omega
            rw [y1, y2])
          rw [if_neg z, if_neg zz]
          exact hQ.1 s p c hs hp' hc
      · intro i c hc hno
        have := hno sn (by omega)
        rw [ws_at _ _ _ _ _ hc, if_neg (by omega)]
        exact hQ.2 i c hc hno
theorem obj_c {A B : sm_M} {ST : Nat → Int32} {b : Int32} (h : CC A ST b) (hAB : ∀ k, 70 ≤ k → k ≤ 81 → A k = B k) (hFB : ∀ o, o < 4 → FInv B o) (h82 : ∀ j, j < 192 → B 82 j = A 69 j) (h60 : ∀ j, j < 16 → A 60 j = oV A ST (gO A (Int32.ofNat j))) {o : Int32} {on : Nat} (ho : o.toInt = on) (h4 : on < 4) (f0 : Nat → Int32) (rec : sm_M → Int32 → Option (Int32 × sm_M)) : ∃ f', g_Linker_build_94 rec (sm_pt A 63 f0) o = rec (sm_pt A 63 f') (o + 1) ∧ OQ (A 70) on (LK B ST 64) f' f0 := by
  have sz := CC_sz h
  have L4 := L_4
  have hP := h.2.2.2.2.2.2.2.1
  obtain ⟨n1, n2⟩ := (hP on h4).F.nfr
  have nz := (nS_le sz (q := 4 * 0 + on) (by omega)).1
  have no := (nS_le sz (q := 4 * 1 + on) (by omega)).1
  rw [g_Linker_build_94, if_neg (by rw [t_le]; omega), wse_c h ho h4 (s := 0) (sn := 0) rfl (by omega), i_b1, wse_c h ho h4 (s := 1) (sn := 1) rfl (by omega), i_b1]
  generalize hf1 : wfr (wfr f0 (fun p => A 69 (48 * on + 24 * 0 + p)) (9 + pre (A 70) (4 * 0 + on)) (nS (A 70) (4 * 0 + on))) (fun p => A 69 (48 * on + 24 * 1 + p)) (9 + pre (A 70) (4 * 1 + on)) (nS (A 70) (4 * 1 + on)) = f1
  have q0 : OQ (A 70) on (LK B ST (16 * on + 0)) f1 f0 := by
    refine ⟨?_, ?_⟩
    · intro s p c hs hp hc
      have ns := (nS_le sz (q := 4 * s + on) (by omega)).1
      rw [LK_lo hFB h4 (by omega) (by omega) _ (by omega), h82 _ (by omega), ← hf1, wfr_at _ _ _ _ _ _ hc, wfr_at _ _ _ _ _ _ hc]
      rcases (show s = 0 ∨ s = 1 by omega) with z | z
      · subst z
        have dj := pre_dj (S := A 70) (q := 4 * 0 + on) (r := 4 * 1 + on) (k := p) (by omega) hp
        rw [if_neg (by omega), if_pos (by omega), show 9 + pre (A 70) (4 * 0 + on) + p - (9 + pre (A 70) (4 * 0 + on)) = p by omega]
      · subst z
        rw [if_pos (by omega), show 9 + pre (A 70) (4 * 1 + on) + p - (9 + pre (A 70) (4 * 1 + on)) = p by omega]
    · intro i c hc hno
      have a := hno 0 (by omega)
      have b' := hno 1 (by omega)
      rw [← hf1, wfr_at _ _ _ _ _ _ hc, wfr_at _ _ _ _ _ _ hc, if_neg b', if_neg a]
  obtain ⟨f', e, q⟩ := mkf_l h hAB h60 ho h4 1100 0 0 f1 rfl (by omega) (by omega) q0
  refine ⟨f', ?_, ?_⟩
  · rw [f_Linker_makeFixes, e, i_b1]
  · refine ⟨fun s p c hs hp hc => ?_, q.2⟩
    have ns := (nS_le sz (q := 4 * s + on) (by omega)).1
    have e1 := LK_hi (B := B) (ST := ST) hFB h4 (j := 48 * on + 24 * s + p) (by omega) (by omega) (48 - 16 * on) (by omega)
    have e2 := LK_end (B := B) (ST := ST) (o := on) (nf := (A 76 on).toInt.toNat) (by rw [← hAB 76 (by omega) (by omega)]; omega) (16 - (A 76 on).toInt.toNat) (by omega)
    rw [show 16 * on + 16 + (48 - 16 * on) = 64 by omega] at e1
    rw [show 16 * on + ((A 76 on).toInt.toNat + (16 - (A 76 on).toInt.toNat)) = 16 * on + 16 by omega] at e2
    rw [q.1 s p c hs hp hc, e1, e2]
