def wfr (f : Nat → Int32) (X : Nat → Int32) (a : Nat) : Nat → Nat → Int32
  | 0 => f
  | n + 1 => ws (wfr f X a n) (4 * (a + n)) (X n)
theorem wfr_at (f X : Nat → Int32) (a : Nat) : ∀ (n i c : Nat), c < 4 → wfr f X a n (4 * i + c) = if a ≤ i ∧ i < a + n then bt c (X (i - a)) else f (4 * i + c)
  | 0, i, c, hc => by rw [wfr, if_neg (by omega)]
  | n + 1, i, c, hc => by
    rw [wfr, ws_at _ _ _ _ _ hc]
    by_cases h : a + n = i
    · rw [if_pos h, if_pos (by omega), show i - a = n by omega]
    · rw [if_neg h, wfr_at f X a n i c hc]
      by_cases g : a ≤ i ∧ i < a + n
      · rw [if_pos g, if_pos (by omega)]
      · rw [if_neg g, if_neg (by omega)]
theorem wfr_cg (f : Nat → Int32) {X Y : Nat → Int32} (a : Nat) : ∀ (n : Nat), (∀ j, j < n → X j = Y j) → wfr f X a n = wfr f Y a n
  | 0, _ => rfl
  | n + 1, h => by rw [wfr, wfr, wfr_cg f a n (fun j hj => h j (by omega)), h n (by omega)]
theorem sw_c' (A : sm_M) (f : Nat → Int32) (i w : Int32) (m : Nat) (hi : i.toInt = 4 * m) (h1 : m ≤ 249) : f_Image_setWord (sm_pt A 63 f) i w = some (sm_pt A 63 (ws f (4 * m) w)) := by
  rw [sw_c _ i w (by omega) (by omega), pt_of, pt_pt, show i.toInt.toNat = 4 * m by omega]
def im (B : sm_M) (g : Nat → Int32) (m : Nat) : sm_M := sm_up (sm_pt B 86 g) 68 18 (Int32.ofNat (4 * m))
theorem im_at {B : sm_M} {g : Nat → Int32} {m k j : Nat} (h1 : k ≠ 86) (h2 : ¬ (k = 68 ∧ j = 18)) : im B g m k j = B k j := by rw [im, i_up, if_neg h2, pt_ne h1]
theorem im_fn {B : sm_M} {g : Nat → Int32} {m k : Nat} (h1 : k ≠ 86) (h2 : k ≠ 68) : im B g m k = B k := funext fun j => im_at h1 (fun z => h2 z.1)
theorem im_86 {B : sm_M} {g : Nat → Int32} {m : Nat} : im B g m 86 = g := funext fun j => by rw [im, i_up, if_neg (by omega), pt_of]
theorem im_18 {B : sm_M} {g : Nat → Int32} {m : Nat} : im B g m 68 18 = Int32.ofNat (4 * m) := by rw [im, i_up, if_pos ⟨rfl, rfl⟩]
theorem of_add (a b : Nat) (h : a + b < 2147483648) : Int32.ofNat a + Int32.ofNat b = Int32.ofNat (a + b) := by
  apply Int32.toInt_inj.mp
  rw [t_add, t_of (by omega), t_of (by omega), t_of (by omega)]
  · omega
  · rw [t_of (by omega), t_of (by omega)]; omega
  · rw [t_of (by omega), t_of (by omega)]; omega
theorem sw_m' (B : sm_M) (g : Nat → Int32) (m : Nat) (w : Int32) (h1 : m ≤ 249) : f_Model_bytes (im B g m) w = some (im B (ws g (4 * m) w) (m + 1)) := by
  have e := t_of (n := 4 * m) (by omega)
  rw [sw_m _ w (by rw [im_18]; omega) (by rw [im_18]; omega), im_18, im_86, show (Int32.ofNat (4 * m)).toInt.toNat = 4 * m by omega]
  congr 1
  have q : Int32.ofNat (4 * m) + 4 = Int32.ofNat (4 * (m + 1)) := of_add (4 * m) 4 (by omega)
  rw [q]
  funext a b
  unfold im
  rw [i_up, i_up, pt_at, pt_at]
  by_cases z : a = 68 ∧ b = 18
  · rw [if_pos z, if_pos z]
  · rw [if_neg z, if_neg z]
    by_cases y : a = 86
    · rw [if_pos y, if_pos y]
    · rw [if_neg y, if_neg y, i_up, if_neg z, pt_ne y]
def HH (e b c d t : Int32) : Nat → Int32
  | 0 => 1263422796
  | 1 => e
  | 2 => b
  | 3 => c
  | 4 => 36
  | 5 => d
  | 6 => t
  | 7 => 36 + c
  | _ => 1263422796 + e + b + c + 36 + d + t + 36 + c
theorem hk_s {A : sm_M} {f X : Nat → Int32} {n : Nat} {w : Int32} {k : Nat} (hw : w.toInt = k) (hk : k < 8) (hn : k < n) (rec : Int32 → Int32 → Option Int32) (y : Int32) : g_Image_headerSum_4 (sm_pt A 63 (wfr f X 0 n)) rec w y = rec (w + 1) (y + X k) := by
  have L8 := L_8
  rw [g_Image_headerSum_4, if_neg (by rw [t_le]; omega), w_hd _ w (by omega) (by omega), i_b1, i_nm, pt_of, show (4 * w.toInt).toNat = 4 * k by omega, wd_bt (w := X k) (fun c hc => by rw [wfr_at f X 0 n k c hc, if_pos (by omega)]; rfl)]
theorem hk_all {A : sm_M} {f X : Nat → Int32} : f_Image_headerSum (sm_pt A 63 (wfr f X 0 8)) = some (0 + X 0 + X 1 + X 2 + X 3 + X 4 + X 5 + X 6 + X 7) := by
  rw [f_Image_headerSum, show (1100 : Nat) = 1091 + 1 + 1 + 1 + 1 + 1 + 1 + 1 + 1 + 1 from rfl]
  rw [lp2_s, hk_s (k := 0) rfl (by omega) (by omega), lp2_s, hk_s (k := 1) (by decide) (by omega) (by omega), lp2_s, hk_s (k := 2) (by decide) (by omega) (by omega), lp2_s, hk_s (k := 3) (by decide) (by omega) (by omega), lp2_s, hk_s (k := 4) (by decide) (by omega) (by omega), lp2_s, hk_s (k := 5) (by decide) (by omega) (by omega), lp2_s, hk_s (k := 6) (by decide) (by omega) (by omega), lp2_s, hk_s (k := 7) (by decide) (by omega) (by omega), lp2_s, g_Image_headerSum_4, if_pos (by decide)]
theorem hdr_c (A : sm_M) (e : Int32) : f_Linker_writeHeader A e = some (sm_pt A 63 (wfr (A 63) (HH e (A 1 4) (A 1 5 - A 1 4) (A 1 6) (A 1 7 - A 1 6)) 0 9)) := by
  have fr : ∀ (f : Nat → Int32) (j : Nat), sm_pt A 63 f 1 j = A 1 j := fun f j => by rw [pt_ne (by omega)]
  generalize hH : HH e (A 1 4) (A 1 5 - A 1 4) (A 1 6) (A 1 7 - A 1 6) = X
  have st : ∀ (n : Nat) (i : Int32) (w : Int32), i.toInt = 4 * n → n ≤ 249 → w = X n → f_Image_setWord (sm_pt A 63 (wfr (A 63) X 0 n)) i w = some (sm_pt A 63 (wfr (A 63) X 0 (n + 1))) := fun n i w a b c => by
    rw [sw_c' A _ i w n a b, wfr, c, Nat.zero_add]
  have s0 : f_Image_setWord A 0 1263422796 = some (sm_pt A 63 (wfr (A 63) X 0 1)) := by
    have := st 0 0 1263422796 rfl (by omega) (by rw [← hH]; rfl)
    rw [show sm_pt A 63 (wfr (A 63) X 0 0) = A from pt_self A 63] at this
    exact this
  rw [f_Linker_writeHeader, i_nm, s0, i_b1]
  rw [st 1 4 e rfl (by omega) (by rw [← hH]; rfl), i_b1, fr, st 2 8 _ rfl (by omega) (by rw [← hH]; rfl), i_b1, st 3 12 _ rfl (by omega) (by rw [← hH]; rfl), i_b1, st 4 16 _ rfl (by omega) (by rw [← hH]; rfl), i_b1, fr, st 5 20 _ rfl (by omega) (by rw [← hH]; rfl), i_b1, fr, fr, st 6 24 _ rfl (by omega) (by rw [← hH]; rfl), i_b1, st 7 28 _ rfl (by omega) (by rw [← hH]; rfl), i_b1, hk_all, i_b1]
  rw [st 8 32 _ rfl (by omega) (by
    rw [← hH]
    simp only [HH]
    grind), i_b1]
def nS (S : Nat → Int32) (q : Nat) : Nat := (S (2 * (q % 4) + q / 4)).toInt.toNat
def pre (S : Nat → Int32) : Nat → Nat
  | 0 => 0
  | q + 1 => pre S q + nS S q
def szOK (S : Nat → Int32) : Prop := ∀ i, i < 8 → 0 ≤ (S i).toInt ∧ (S i).toInt ≤ 24
theorem nS_le {S : Nat → Int32} (h : szOK S) {q : Nat} (hq : q < 8) : nS S q ≤ 24 ∧ ((nS S q : Nat) : Int) = (S (2 * (q % 4) + q / 4)).toInt := by
  have := h (2 * (q % 4) + q / 4) (by omega)
  unfold nS
  omega
theorem pre_le {S : Nat → Int32} (h : szOK S) : ∀ {q : Nat}, q ≤ 8 → pre S q ≤ 24 * q
  | 0, _ => by simp [pre]
  | q + 1, hq => by
    have := pre_le h (q := q) (by omega)
    have := (nS_le h (q := q) (by omega)).1
    rw [pre]
    omega
theorem pre_mono {S : Nat → Int32} {q : Nat} : ∀ {r : Nat}, q < r → pre S q + nS S q ≤ pre S r
  | 0, h => by omega
  | r + 1, h => by
    by_cases e : q = r
    · rw [e]; exact Nat.le_refl _
    · have := pre_mono (S := S) (q := q) (r := r) (by omega)
      rw [pre]
      omega
theorem pre_dj {S : Nat → Int32} {q r k : Nat} (hne : q ≠ r) (hk : k < nS S q) : ¬ (pre S r ≤ pre S q + k ∧ pre S q + k < pre S r + nS S r) := by
  rcases Nat.lt_or_gt_of_ne hne with h | h
  · have := pre_mono (S := S) h; omega
  · have := pre_mono (S := S) h; omega
theorem pre_ex {S : Nat → Int32} : ∀ {n i : Nat}, i < pre S n → ∃ q k, q < n ∧ k < nS S q ∧ i = pre S q + k
  | 0, i, h => by simp [pre] at h
  | n + 1, i, h => by
    rw [pre] at h
    by_cases c : i < pre S n
    · obtain ⟨q, k, a, b, d⟩ := pre_ex c
      exact ⟨q, k, by omega, b, d⟩
    · exact ⟨n, i - pre S n, by omega, by omega, by omega⟩
theorem stg_t {S : Nat → Int32} (h : szOK S) {b : Int32} (s : Nat) (hs : s < 2) (b0 : 0 ≤ b.toInt) (b1 : b.toInt ≤ 1000010000) : ∀ {o : Nat}, o ≤ 4 → (stg s S b o).toInt = b.toInt + 4 * (pre S (4 * s + o) - pre S (4 * s) : Int)
  | 0, _ => by simp [stg]
  | o + 1, ho => by
    have ih := stg_t h s hs b0 b1 (o := o) (by omega)
    have n := nS_le h (q := 4 * s + o) (by omega)
    rw [show (4 * s + o) % 4 = o by omega, show (4 * s + o) / 4 = s by omega] at n
    have p1 := pre_le h (q := 4 * s + o) (by omega)
    have m := t_4m (w := S (2 * o + s)) (by omega) (by omega)
    have e : pre S (4 * s + (o + 1)) = pre S (4 * s + o) + nS S (4 * s + o) := rfl
    have p2 : pre S (4 * s) ≤ pre S (4 * s + o) := by
      by_cases z : o = 0
      · rw [z]; exact Nat.le_refl _
      · have := pre_mono (S := S) (q := 4 * s) (r := 4 * s + o) (by omega); omega
    rw [stg, t_add] <;> omega
theorem dS_t {S : Nat → Int32} (h : szOK S) {b : Int32} (b0 : 0 ≤ b.toInt) (b1 : b.toInt ≤ 1000000000) : b.toInt + 4 * (pre S 4 : Int) ≤ (dS S b).toInt ∧ (dS S b).toInt ≤ 1000001000 := by
  have t := stg_t h (b := b) 0 (by omega) b0 (by omega) (o := 4) (by omega)
  have p := pre_le h (q := 4) (by omega)
  have L63 : (63 : Int32).toInt = 63 := rfl
  have L64 : (64 : Int32).toInt = 64 := rfl
  have z : pre S (4 * 0) = 0 := rfl
  rw [show 4 * 0 + 4 = 4 from rfl, z] at t
  have e1 : (stg 0 S b 4 + 63).toInt = (stg 0 S b 4).toInt + 63 := by rw [t_add] <;> omega
  have e2 : ((stg 0 S b 4 + 63) / 64).toInt = ((stg 0 S b 4).toInt + 63) / 64 := by
    rw [Int32.toInt_div, L64, e1, Int.tdiv_eq_ediv_of_nonneg (by omega), Int.bmod_def]
    omega
  have e3 : (dS S b).toInt = ((stg 0 S b 4).toInt + 63) / 64 * 64 := by
    unfold dS
    rw [t_mul] <;> rw [e2, L64] <;> omega
  omega
