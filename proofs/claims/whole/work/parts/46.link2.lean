def fd (p : Nat → Bool) : Nat → Option Nat
  | 0 => none
  | n + 1 => match fd p n with
    | some d => some d
    | none => if p n then some n else none
theorem fd_some {p : Nat → Bool} : ∀ {n d : Nat}, fd p n = some d → d < n ∧ p d = true
  | 0, d, h => by simp [fd] at h
  | n + 1, d, h => by
    rw [fd] at h
    cases e : fd p n with
    | some x =>
      rw [e] at h
      simp at h
      subst h
      have := fd_some e
      exact ⟨by omega, this.2⟩
    | none =>
      rw [e] at h
      simp at h
      exact ⟨by omega, h.2 ▸ h.1⟩
theorem fd_no {p : Nat → Bool} : ∀ {n : Nat}, (∀ e, e < n → p e = false) → fd p n = none
  | 0, _ => rfl
  | n + 1, h => by
    rw [fd, fd_no (fun e he => h e (by omega))]
    simp [h n (by omega)]
theorem fd_none {p : Nat → Bool} : ∀ {n : Nat}, fd p n = none → ∀ e, e < n → p e = false
  | 0, _, e, he => by omega
  | n + 1, h, e, he => by
    rw [fd] at h
    cases q : fd p n with
    | some x => rw [q] at h; simp at h
    | none =>
      rw [q] at h
      simp at h
      by_cases hh : e = n
      · rw [hh]; exact h
      · exact fd_none q e (by omega)
theorem fd_of {p : Nat → Bool} {d : Nat} (hp : p d = true) (h : ∀ e, e < d → p e = false) : ∀ {n : Nat}, d < n → fd p n = some d
  | 0, hn => by omega
  | n + 1, hn => by
    rw [fd]
    by_cases g : d = n
    · subst g; rw [fd_no h]; simp [hp]
    · rw [fd_of hp h (n := n) (by omega)]
def cn (p : Nat → Bool) : Nat → Nat
  | 0 => 0
  | n + 1 => cn p n + if p n then 1 else 0
theorem cn_le {p : Nat → Bool} : ∀ {n : Nat}, cn p n ≤ n
  | 0 => by simp [cn]
  | n + 1 => by rw [cn]; have := cn_le (p := p) (n := n); split <;> omega
theorem cn_mono {p q : Nat → Bool} (h : ∀ d, p d = true → q d = true) : ∀ {n : Nat}, cn p n ≤ cn q n
  | 0 => by simp [cn]
  | n + 1 => by
    rw [cn, cn]
    have := cn_mono h (n := n)
    have := h n
    cases e1 : p n <;> cases e2 : q n <;> simp_all <;> omega
theorem cn_0 {p : Nat → Bool} : ∀ {n : Nat}, cn p n = 0 ↔ fd p n = none
  | 0 => by simp [cn, fd]
  | n + 1 => by
    rw [cn, fd]
    have := cn_0 (p := p) (n := n)
    cases e : fd p n <;> cases e1 : p n <;> simp_all
def oi (b : Nat) : Option Nat → Int32
  | none => -1
  | some d => Int32.ofNat (b + d)
theorem t_of {n : Nat} (h : n < 2147483648) : (Int32.ofNat n).toInt = n := Int32.toInt_ofNat_of_lt h
theorem of_t {w : Int32} {i : Nat} (h : w.toInt = i) : Int32.ofNat i = w := by
  have := Int32.toInt_lt w
  exact Int32.toInt_inj.mp (by rw [t_of (by omega), h])
theorem oi_m1 {b : Nat} {x : Option Nat} (hx : ∀ d, x = some d → b + d < 2147483648) : oi b x = -1 ↔ x = none := by
  cases x with
  | none => simp [oi]
  | some d =>
    have h := hx d rfl
    simp only [oi, reduceCtorEq, iff_false]
    intro g
    have := congrArg Int32.toInt g
    rw [t_of h, t_m1] at this
    omega
theorem c_df (A : sm_M) (k : Nat) (nm : Int32) (n : Nat) (hn : n ≤ 8) (en : (A k 6).toInt = n) : ∀ (f i : Nat) (w : Int32), w.toInt = i → i ≤ n → (∀ e, e < i → decide (A (k + 5) e = nm) = false) → n - i < f → sm_lp1 (g_Part_definitionOf_2 k A k nm) f w = some (oi 0 (fd (fun d => decide (A (k + 5) d = nm)) n))
  | 0, i, w, _, _, _, h => by omega
  | f + 1, i, w, hw, hi, hp, hf => by
    rw [lp1_s, g_Part_definitionOf_2]
    by_cases c : A k 6 ≤ w
    · rw [if_pos c]
      rw [t_le] at c
      rw [fd_no (fun e he => hp e (by omega))]
      rfl
    · rw [if_neg c]
      rw [t_le] at c
      rw [i_gd (by omega) (by omega), t_n, hw, show ((i : Int)).toNat = i by omega]
      by_cases g : A (k + 5) i = nm
      · rw [if_pos g, fd_of (d := i) (by simp [g]) hp (by omega), oi, Nat.zero_add, of_t hw]
      · rw [if_neg g]
        have := t_inc (x := w) (by omega)
        exact c_df A k nm n hn en f (i + 1) (w + 1) (by omega) (by omega) (fun e he => by
          by_cases q : e = i
          · subst q; simp [g]
          · exact hp e (by omega)) (by omega)
theorem c_gf (A : sm_M) (k : Nat) (nm : Int32) (n : Nat) (hn : n ≤ 8) (en : (A k 6).toInt = n) : ∀ (f i : Nat) (w : Int32), w.toInt = i → i ≤ n → (∀ e, e < i → decide (A (k + 5) e = nm ∧ ¬ A (k + 8) e = 0) = false) → n - i < f → sm_lp1 (g_Part_globalDefinitionOf_2 k A k nm) f w = some (oi 0 (fd (fun d => decide (A (k + 5) d = nm ∧ ¬ A (k + 8) d = 0)) n))
  | 0, i, w, _, _, _, h => by omega
  | f + 1, i, w, hw, hi, hp, hf => by
    rw [lp1_s, g_Part_globalDefinitionOf_2]
    by_cases c : A k 6 ≤ w
    · rw [if_pos c]
      rw [t_le] at c
      rw [fd_no (fun e he => hp e (by omega))]
      rfl
    · rw [if_neg c]
      rw [t_le] at c
      rw [i_gd (by omega) (by omega), t_n, hw, show ((i : Int)).toNat = i by omega]
      have := t_inc (x := w) (by omega)
      have nx : ¬ (A (k + 5) i = nm ∧ ¬ A (k + 8) i = 0) → sm_lp1 (g_Part_globalDefinitionOf_2 k A k nm) f (w + 1) = some (oi 0 (fd (fun d => decide (A (k + 5) d = nm ∧ ¬ A (k + 8) d = 0)) n)) := fun g =>
        c_gf A k nm n hn en f (i + 1) (w + 1) (by omega) (by omega) (fun e he => by
          by_cases q : e = i
          · subst q; simp only [decide_eq_false_iff_not]; exact g
          · exact hp e (by omega)) (by omega)
      by_cases g : A (k + 5) i = nm
      · rw [if_pos g, i_gd (by omega) (by omega)]
        by_cases g2 : A (k + 8) i = 0
        · rw [if_pos g2]
          exact nx (fun z => z.2 g2)
        · rw [if_neg g2, fd_of (d := i) (by simp [g, g2]) hp (by omega), oi, Nat.zero_add, of_t hw]
      · rw [if_neg g]
        exact nx (fun z => g z.1)
theorem c_td (A : sm_M) (k : Nat) (nm : Int32) (n : Nat) (hn : n ≤ 8) (en : (A k 6).toInt = n) : ∀ (f i : Nat) (w x : Int32), w.toInt = i → i ≤ n → x.toInt = cn (fun d => decide (A (k + 5) d = nm)) i → n - i < f → sm_lp2 (g_Part_timesDefined_4 k A k nm) f w x = some (Int32.ofNat (cn (fun d => decide (A (k + 5) d = nm)) n))
  | 0, i, w, x, _, _, _, h => by omega
  | f + 1, i, w, x, hw, hi, hx, hf => by
    rw [lp2_s, g_Part_timesDefined_4]
    by_cases c : A k 6 ≤ w
    · rw [if_pos c]
      rw [t_le] at c
      rw [show n = i by omega, of_t hx]
    · rw [if_neg c]
      rw [t_le] at c
      have := t_inc (x := w) (by omega)
      have b := cn_le (p := fun d => decide (A (k + 5) d = nm)) (n := i)
      have := t_inc (x := x) (by omega)
      rw [i_gd (by omega) (by omega), t_n, hw, show ((i : Int)).toNat = i by omega]
      by_cases g : A (k + 5) i = nm
      · rw [if_pos g]
        exact c_td A k nm n hn en f (i + 1) (w + 1) (x + 1) (by omega) (by omega) (by rw [cn, if_pos (by simp [g])]; omega) (by omega)
      · rw [if_neg g]
        exact c_td A k nm n hn en f (i + 1) (w + 1) x (by omega) (by omega) (by rw [cn, if_neg (by simp [g])]; omega) (by omega)
theorem m_df (B : sm_M) (o nm q : Int32) (on : Nat) (ho : o.toInt = on) (h4 : on < 4) (p : Nat → Bool) (hp : ∀ d, p d = decide (B 72 (8 * on + d) = nm ∧ (q = 0 → ¬ B 75 (8 * on + d) = 0))) : ∀ (i f : Nat) (w x : Int32) (y : Option Nat), i ≤ 8 → w.toInt = (i : Int) - 1 → x = oi (8 * on) y → i < f → sm_lp2 (g_Model_definition_13 B o nm q) f w x = some (oi (8 * on) ((fd p i).or y))
  | _, 0, w, x, y, _, _, _, h => by omega
  | 0, f + 1, w, x, y, _, hw, hx, h => by
    rw [lp2_s, g_Model_definition_13, if_pos (by rw [t_lt, t_0]; omega), fd, Option.none_or, hx]
  | i + 1, f + 1, w, x, y, hi, hw, hx, h => by
    have e8 : (8 * o).toInt = 8 * on := by rw [Int32.toInt_mul, show (8 : Int32).toInt = 8 from rfl, ho, Int.bmod_def]; omega
    have e : (8 * o + w).toInt = 8 * on + i := by have := t_add (x := 8 * o) (y := w) (by omega) (by omega); omega
    have d : (w + -1).toInt = (i : Int) - 1 := by have k := t_m1; have := t_add (x := w) (y := -1) (by omega) (by omega); omega
    rw [lp2_s, g_Model_definition_13, if_neg (by rw [t_lt, t_0]; omega), i_gd (by omega) (by omega), t_n, e, show ((8 * on + i : Int)).toNat = 8 * on + i by omega]
    have hit : p i = true → sm_lp2 (g_Model_definition_13 B o nm q) f (w + -1) (8 * o + w) = some (oi (8 * on) ((fd p (i + 1)).or y)) := fun g => by
      rw [m_df B o nm q on ho h4 p hp i f (w + -1) (8 * o + w) (some i) (by omega) d (by rw [oi]; exact (of_t (by omega)).symm) (by omega), fd]
      cases fd p i <;> simp [g]
    have mis : p i = false → sm_lp2 (g_Model_definition_13 B o nm q) f (w + -1) x = some (oi (8 * on) ((fd p (i + 1)).or y)) := fun g => by
      rw [m_df B o nm q on ho h4 p hp i f (w + -1) x y (by omega) d hx (by omega), fd]
      cases fd p i <;> simp [g]
    have hpi := hp i
    by_cases g : B 72 (8 * on + i) = nm
    · rw [if_pos g]
      by_cases g2 : q = 0
      · rw [if_pos g2, i_gd (by omega) (by omega)]
        by_cases g3 : B 75 (8 * on + i) = 0
        · rw [if_pos g3]
          exact mis (by rw [hpi]; simp [g2, g3])
        · rw [if_neg g3, i_nm]
          exact hit (by rw [hpi]; simp [g, g3])
      · rw [if_neg g2, i_nm]
        exact hit (by rw [hpi]; simp [g, g2])
    · rw [if_neg g]
      exact mis (by rw [hpi]; simp [g])
def pA (nm : Nat → Int32) (o : Nat) (x : Int32) (d : Nat) : Bool := decide (nm (8 * o + d) = x)
def pG (nm gl : Nat → Int32) (o : Nat) (x : Int32) (d : Nat) : Bool := decide (nm (8 * o + d) = x ∧ ¬ gl (8 * o + d) = 0)
def nN (nd : Nat → Int32) (o : Nat) : Nat := (nd o).toInt.toNat
def dA (B : sm_M) (o : Nat) (x : Int32) : Option Nat := fd (pA (B 72) o x) (nN (B 71) o)
def dG (B : sm_M) (o : Nat) (x : Int32) : Option Nat := fd (pG (B 72) (B 75) o x) (nN (B 71) o)
def cA (B : sm_M) (o : Nat) (x : Int32) : Nat := cn (pA (B 72) o x) (nN (B 71) o)
def cG (B : sm_M) (o : Nat) (x : Int32) : Nat := cn (pG (B 72) (B 75) o x) (nN (B 71) o)
theorem fd_congr {p q : Nat → Bool} : ∀ {n : Nat}, (∀ d, d < n → p d = q d) → fd p n = fd q n
  | 0, _ => rfl
  | n + 1, h => by rw [fd, fd, fd_congr (fun d hd => h d (by omega)), h n (by omega)]
theorem cn_congr {p q : Nat → Bool} : ∀ {n : Nat}, (∀ d, d < n → p d = q d) → cn p n = cn q n
  | 0, _ => rfl
  | n + 1, h => by rw [cn, cn, cn_congr (fun d hd => h d (by omega)), h n (by omega)]
theorem nN_t {A : sm_M} {o : Nat} (h : NInv A o) : ((A 71 o).toInt = nN (A 71) o) ∧ nN (A 71) o ≤ 8 := by
  have := h.ndr
  unfold nN
  omega
theorem fc_def {A : sm_M} {o : Nat} (h : NInv A o) (x : Int32) : f_Part_definitionOf A (3 + 14 * o) x = some (oi 0 (dA A o x)) := by
  have t := nN_t h
  rw [f_Part_definitionOf, c_df A (3 + 14 * o) x (nN (A 71) o) t.2 (by rw [h.nd]; exact t.1) 1100 0 0 rfl (by omega) (fun e he => by omega) (by omega), dA]
  congr 2
  exact fd_congr (fun d hd => by rw [h.dn d (by omega)]; rfl)
theorem fc_glo {A : sm_M} {o : Nat} (h : NInv A o) (x : Int32) : f_Part_globalDefinitionOf A (3 + 14 * o) x = some (oi 0 (dG A o x)) := by
  have t := nN_t h
  rw [f_Part_globalDefinitionOf, c_gf A (3 + 14 * o) x (nN (A 71) o) t.2 (by rw [h.nd]; exact t.1) 1100 0 0 rfl (by omega) (fun e he => by omega) (by omega), dG]
  congr 2
  exact fd_congr (fun d hd => by rw [h.dn d (by omega), h.dg d (by omega)]; rfl)
theorem fc_tim {A : sm_M} {o : Nat} (h : NInv A o) (x : Int32) : f_Part_timesDefined A (3 + 14 * o) x = some (Int32.ofNat (cA A o x)) := by
  have t := nN_t h
  rw [f_Part_timesDefined, c_td A (3 + 14 * o) x (nN (A 71) o) t.2 (by rw [h.nd]; exact t.1) 1100 0 0 0 rfl (by omega) rfl (by omega), cA]
  congr 2
  exact cn_congr (fun d hd => by rw [h.dn d (by omega)]; rfl)
theorem fm_any {B : sm_M} {o : Int32} {on : Nat} (ho : o.toInt = on) (h4 : on < 4) (h : NInv B on) (x : Int32) : f_Model_definition B o x 1 = some (oi (8 * on) (dA B on x)) := by
  have t := nN_t h
  have e : (B 71 on - 1).toInt = (nN (B 71) on : Int) - 1 := by rw [t_sub, t_1, t.1] <;> rw [t_1, t.1] <;> omega
  rw [f_Model_definition, i_gd (by omega) (by omega), i_nm, t_n, ho, show ((on : Int)).toNat = on by omega, m_df B o x 1 on ho h4 (pA (B 72) on x) (fun d => by simp [pA]) (nN (B 71) on) 1100 _ (-1) none t.2 e rfl (by omega), Option.or_none]
  rfl
theorem fm_glo {B : sm_M} {o : Int32} {on : Nat} (ho : o.toInt = on) (h4 : on < 4) (h : NInv B on) (x : Int32) : f_Model_definition B o x 0 = some (oi (8 * on) (dG B on x)) := by
  have t := nN_t h
  have e : (B 71 on - 1).toInt = (nN (B 71) on : Int) - 1 := by rw [t_sub, t_1, t.1] <;> rw [t_1, t.1] <;> omega
  rw [f_Model_definition, i_gd (by omega) (by omega), i_nm, t_n, ho, show ((on : Int)).toNat = on by omega, m_df B o x 0 on ho h4 (pG (B 72) (B 75) on x) (fun d => by simp [pG]) (nN (B 71) on) 1100 _ (-1) none t.2 e rfl (by omega), Option.or_none]
  rfl
