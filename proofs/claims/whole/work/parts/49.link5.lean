theorem t_4m {w : Int32} (h1 : -1000000 ≤ w.toInt) (h2 : w.toInt ≤ 1000000) : (4 * w).toInt = 4 * w.toInt := by
  rw [t_mul] <;> rw [L_4] <;> omega
theorem t_2m {w : Int32} (h1 : -1000000 ≤ w.toInt) (h2 : w.toInt ≤ 1000000) : (2 * w).toInt = 2 * w.toInt := by
  rw [t_mul] <;> rw [L_2] <;> omega
theorem t_m4 {w : Int32} (h1 : -1000000 ≤ w.toInt) (h2 : w.toInt ≤ 1000000) : (w * 4).toInt = 4 * w.toInt := by
  rw [t_mul] <;> rw [L_4] <;> omega
theorem t_div8 (x : Int32) (h0 : 0 ≤ x.toInt) : (x / 8).toInt = x.toInt / 8 := by
  have h2 := Int32.toInt_lt x
  rw [Int32.toInt_div, L_8, Int.tdiv_eq_ediv_of_nonneg h0, Int.bmod_def]
  omega
theorem t_div16 (x : Int32) (h0 : 0 ≤ x.toInt) : (x / 16).toInt = x.toInt / 16 := by
  have h2 := Int32.toInt_lt x
  rw [Int32.toInt_div, L_16, Int.tdiv_eq_ediv_of_nonneg h0, Int.bmod_def]
  omega
def stOK (ST : Nat → Int32) : Prop := ∀ i, i < 8 → 0 ≤ (ST i).toInt ∧ (ST i).toInt ≤ 1000100000
def vV (B : sm_M) (ST : Nat → Int32) (i : Nat) : Int32 := ST (2 * (i / 8) + (B 73 i).toInt.toNat) + 4 * B 74 i
theorem sec_t {B : sm_M} (h : ∀ o, o < 4 → NInv B o) {i : Nat} (hi : i < 32) : (B 73 i).toInt = 0 ∨ (B 73 i).toInt = 1 := by
  have g := (h (i / 8) (by omega)).dsr (i % 8) (by omega)
  rw [show 8 * (i / 8) + i % 8 = i by omega] at g
  rcases g with g | g <;> rw [g]
  · exact Or.inl rfl
  · exact Or.inr rfl
theorem pla_t {B : sm_M} (h : ∀ o, o < 4 → NInv B o) {i : Nat} (hi : i < 32) : 0 ≤ (B 74 i).toInt ∧ (B 74 i).toInt ≤ 24 := by
  have g := (h (i / 8) (by omega)).dpr (i % 8) (by omega)
  rw [show 8 * (i / 8) + i % 8 = i by omega] at g
  exact g
theorem vV_t {B : sm_M} {ST : Nat → Int32} (hS : stOK ST) (h : ∀ o, o < 4 → NInv B o) {i : Nat} (hi : i < 32) : 0 ≤ (vV B ST i).toInt ∧ (vV B ST i).toInt ≤ 1000100096 := by
  have a := sec_t h hi
  have b := pla_t h hi
  have c := hS (2 * (i / 8) + (B 73 i).toInt.toNat) (by omega)
  have d := t_4m (w := B 74 i) (by omega) (by omega)
  unfold vV
  rw [t_add] <;> omega
theorem vV_cg {A B : sm_M} {ST : Nat → Int32} (h1 : A 73 = B 73) (h2 : A 74 = B 74) (i : Nat) : vV A ST i = vV B ST i := by unfold vV; rw [h1, h2]
theorem m_val {B : sm_M} {ST : Nat → Int32} (h : ∀ o, o < 4 → NInv B o) (h83 : ∀ i, i < 8 → B 83 i = ST i) {i : Nat} (hi : i < 32) : f_Model_valueOf B (Int32.ofNat i) = some (vV B ST i) := by
  have e := t_of (n := i) (by omega)
  have e2 : (Int32.ofNat i).toNatClampNeg = i := by rw [t_n]; omega
  have a := sec_t h hi
  have d := t_div8 (Int32.ofNat i) (by omega)
  have d2 := t_2m (w := Int32.ofNat i / 8) (by omega) (by omega)
  have d3 : (2 * (Int32.ofNat i / 8) + B 73 i).toInt = 2 * (i / 8) + (B 73 i).toInt := by rw [t_add] <;> omega
  have d4 : (2 * (Int32.ofNat i / 8) + B 73 i).toNatClampNeg = 2 * (i / 8) + (B 73 i).toInt.toNat := by rw [t_n, d3]; omega
  rw [f_Model_valueOf, i_gd (by omega) (by omega), e2, i_gd (by omega) (by omega), i_gd (by omega) (by omega), d4, h83 _ (by omega)]
  rfl
theorem c_adr {A : sm_M} {ST : Nat → Int32} (h59 : ∀ o s, o < 4 → s < 2 → A 59 (4 * s + o) = ST (2 * o + s)) {o s : Int32} {on sn : Nat} (ho : o.toInt = on) (h4 : on < 4) (hs : s.toInt = sn) (h2 : sn < 2) (p : Int32) : f_Linker_addressOf A o s p = some (ST (2 * on + sn) + 4 * p) := by
  have d := t_m4 (w := s) (by omega) (by omega)
  have e : (s * 4 + o).toInt = 4 * sn + on := by rw [t_add] <;> omega
  have e2 : (s * 4 + o).toNatClampNeg = 4 * sn + on := by rw [t_n, e]; omega
  rw [f_Linker_addressOf, i_gd (by omega) (by omega), e2, h59 on sn h4 h2]
theorem c_dfa {A : sm_M} {ST : Nat → Int32} (h : ∀ o, o < 4 → NInv A o) (h59 : ∀ o s, o < 4 → s < 2 → A 59 (4 * s + o) = ST (2 * o + s)) {o d : Int32} {on dn : Nat} (ho : o.toInt = on) (h4 : on < 4) (hd : d.toInt = dn) (h8 : dn < 8) : f_Linker_definedAddress A o d = some (vV A ST (8 * on + dn)) := by
  have o2 : o.toNatClampNeg = on := by rw [t_n]; omega
  have d2 : d.toNatClampNeg = dn := by rw [t_n]; omega
  have a := sec_t h (i := 8 * on + dn) (by omega)
  rw [f_Linker_definedAddress, i_gd (by omega) (by omega), i_nm, i_gd (by omega) (by omega), i_gd (by omega) (by omega), i_nm, i_gd (by omega) (by omega), o2, d2, (h on h4).ds dn h8, (h on h4).dp dn h8, c_adr h59 ho h4 (sn := (A 73 (8 * on + dn)).toInt.toNat) (by omega) (by omega), i_b1, vV, show (8 * on + dn) / 8 = on by omega]
def sV (A : sm_M) (ST : Nat → Int32) (o : Nat) (x : Int32) (v : Int32) : Int32 := match dG A o x with
  | none => v
  | some d => vV A ST (8 * o + d)
def fG (A : sm_M) (ST : Nat → Int32) (x : Int32) : Int32 := sV A ST 3 x (sV A ST 2 x (sV A ST 1 x (sV A ST 0 x (-1))))
theorem dG_cg {A B : sm_M} (h1 : A 71 = B 71) (h2 : A 72 = B 72) (h3 : A 75 = B 75) (o : Nat) (x : Int32) : dG A o x = dG B o x := by unfold dG; rw [h1, h2, h3]
theorem dA_cg {A B : sm_M} (h1 : A 71 = B 71) (h2 : A 72 = B 72) (o : Nat) (x : Int32) : dA A o x = dA B o x := by unfold dA; rw [h1, h2]
theorem sV_cg {A B : sm_M} {ST : Nat → Int32} (h : ∀ k, 71 ≤ k → k ≤ 75 → A k = B k) (o : Nat) (x v : Int32) : sV A ST o x v = sV B ST o x v := by
  unfold sV
  rw [dG_cg (h 71 (by omega) (by omega)) (h 72 (by omega) (by omega)) (h 75 (by omega) (by omega))]
  split
  · rfl
  · exact vV_cg (h 73 (by omega) (by omega)) (h 74 (by omega) (by omega)) _
theorem up_up (M : sm_M) (k j : Nat) (x y : Int32) : sm_up (sm_up M k j x) k j y = sm_up M k j y := by
  funext a b
  simp only [i_up]
  split <;> rfl
theorem fgl_s {A : sm_M} {ST : Nat → Int32} (h : ∀ o, o < 4 → NInv A o) (h59 : ∀ o s, o < 4 → s < 2 → A 59 (4 * s + o) = ST (2 * o + s)) (x : Int32) (xn : Nat) (hx : x.toInt = xn) (h16 : xn < 16) (rec2 rec : sm_M → Int32 → Option sm_M) {w : Int32} {o : Nat} (hw : w.toInt = o) (h4 : o < 4) (v : Int32) : g_Linker_findGlobals_17 x rec2 rec (sm_up A 60 xn v) w = rec (sm_up A 60 xn (sV A ST o x v)) (w + 1) := by
  have L4 := L_4
  have fr : ∀ k, k ≠ 60 → sm_up A 60 xn v k = A k := fun k hk => funext fun j => by rw [i_up, if_neg (by omega)]
  have h' : ∀ o, o < 4 → NInv (sm_up A 60 xn v) o := fun o ho => (h o ho).congr (fun k j z => by unfold ownN at z; rw [fr k (by omega)])
  have h59' : ∀ o s, o < 4 → s < 2 → (sm_up A 60 xn v) 59 (4 * s + o) = ST (2 * o + s) := fun o s a b => by rw [fr 59 (by omega)]; exact h59 o s a b
  have w2 : w.toNatClampNeg = o := by rw [t_n]; omega
  have x2 : x.toNatClampNeg = xn := by rw [t_n]; omega
  have hd : dG (sm_up A 60 xn v) o x = dG A o x := dG_cg (fr _ (by omega)) (fr _ (by omega)) (fr _ (by omega)) o x
  rw [g_Linker_findGlobals_17, if_neg (by rw [t_le]; omega), i_gd (by omega) (by omega), i_nm, w2, fc_glo (h' o h4), i_b1, hd, sV]
  cases e : dG A o x with
  | none => rw [oi, if_pos rfl]
  | some d =>
    have d8 := dG_lt (h o h4) e
    have dt : (Int32.ofNat (0 + d)).toInt = d := by rw [t_of (by omega)]; omega
    rw [oi, if_neg (fun z => by have := congrArg Int32.toInt z; rw [dt, t_m1] at this; omega), c_dfa h' h59' hw h4 dt d8, i_b1, i_gd (by omega) (by omega), x2, i_nm, up_up]
    congr 2
theorem fgl_n {A : sm_M} {ST : Nat → Int32} (h : ∀ o, o < 4 → NInv A o) (h59 : ∀ o s, o < 4 → s < 2 → A 59 (4 * s + o) = ST (2 * o + s)) (x : Int32) (xn : Nat) (hx : x.toInt = xn) (h16 : xn < 16) (rec2 : sm_M → Int32 → Option sm_M) : g_Linker_findGlobals_2 rec2 A x = rec2 (sm_up A 60 xn (fG A ST x)) (x + 1) := by
  have x2 : x.toNatClampNeg = xn := by rw [t_n]; omega
  rw [g_Linker_findGlobals_2, if_neg (by rw [t_le, L_16]; omega), i_gd (by omega) (by omega), i_nm, x2]
  rw [show (1100 : Nat) = 1095 + 1 + 1 + 1 + 1 + 1 from rfl, lp2_s, fgl_s h h59 x xn hx h16 rec2 _ (w := 0) (o := 0) rfl (by omega), lp2_s, fgl_s h h59 x xn hx h16 rec2 _ (w := 0 + 1) (o := 1) rfl (by omega), lp2_s, fgl_s h h59 x xn hx h16 rec2 _ (w := 0 + 1 + 1) (o := 2) rfl (by omega), lp2_s, fgl_s h h59 x xn hx h16 rec2 _ (w := 0 + 1 + 1 + 1) (o := 3) rfl (by omega), lp2_s, g_Linker_findGlobals_17, if_pos (by decide)]
  rfl
theorem fG_cg {A B : sm_M} {ST : Nat → Int32} (h : ∀ k, 71 ≤ k → k ≤ 75 → A k = B k) (x : Int32) : fG A ST x = fG B ST x := by
  unfold fG
  rw [sV_cg h, sV_cg h, sV_cg h, sV_cg h]
theorem fgl_l {A0 : sm_M} {ST : Nat → Int32} (h : ∀ o, o < 4 → NInv A0 o) (h59 : ∀ o s, o < 4 → s < 2 → A0 59 (4 * s + o) = ST (2 * o + s)) : ∀ (f i : Nat) (A : sm_M) (w : Int32), (∀ k j, k ≠ 60 → A k j = A0 k j) → (∀ j, j < i → A 60 j = fG A0 ST (Int32.ofNat j)) → w.toInt = i → i ≤ 16 → 16 - i < f → ∃ A', sm_lp2 g_Linker_findGlobals_2 f A w = some A' ∧ (∀ k j, k ≠ 60 → A' k j = A0 k j) ∧ (∀ j, j < 16 → A' 60 j = fG A0 ST (Int32.ofNat j))
  | 0, i, A, w, _, _, _, _, h => by omega
  | f + 1, i, A, w, fr, hA, hw, hi, hf => by
    have L16 := L_16
    have fr' : ∀ k, k ≠ 60 → A k = A0 k := fun k hk => funext fun j => fr k j hk
    rw [lp2_s]
    by_cases c : i = 16
    · subst c
      rw [g_Linker_findGlobals_2, if_pos (by rw [t_le]; omega)]
      exact ⟨A, rfl, fr, hA⟩
    · have ei := t_inc (x := w) (by omega)
      have h' : ∀ o, o < 4 → NInv A o := fun o ho => (h o ho).congr (fun k j z => by unfold ownN at z; exact fr k j (by omega))
      rw [fgl_n h' (fun o s a b => by rw [fr' 59 (by omega)]; exact h59 o s a b) w i hw (by omega)]
      rw [fG_cg (fun k a b => fr' k (by omega)) w]
      exact fgl_l h h59 f (i + 1) _ (w + 1) (fun k j hk => by rw [i_up, if_neg (by omega)]; exact fr k j hk) (fun j hj => by
        rw [i_up]
        by_cases q : j = i
        · rw [if_pos ⟨rfl, q⟩, q, of_t hw]
        · rw [if_neg (by omega)]; exact hA j (by omega)) (by omega) (by omega) (by omega)
def gO (B : sm_M) (x : Int32) : Option Nat := match dG B 0 x with
  | some d => some (0 + d)
  | none => match dG B 1 x with
    | some d => some (8 + d)
    | none => match dG B 2 x with
      | some d => some (16 + d)
      | none => match dG B 3 x with
        | some d => some (24 + d)
        | none => none
theorem glo_s {B : sm_M} {o : Nat} (h : NInv B o) (ho : o < 4) (x : Int32) (rec : Int32 → Int32 → Option Int32) (w y : Int32) (hw : w.toInt = o) : g_Model_globalOne_4 B x rec w y = rec (w + -1) (match dG B o x with
    | none => y
    | some d => Int32.ofNat (8 * o + d)) := by
  rw [g_Model_globalOne_4, if_neg (by rw [t_lt, t_0]; omega), fm_glo hw ho h, i_b1]
  cases e : dG B o x with
  | none => rw [oi, if_pos rfl]
  | some d =>
    have d8 := dG_lt h e
    have dt : (Int32.ofNat (8 * o + d)).toInt = 8 * o + d := by rw [t_of (by omega)]; omega
    rw [oi, if_neg (fun z => by have := congrArg Int32.toInt z; rw [dt, t_m1] at this; omega)]
theorem glo_m {B : sm_M} (h : ∀ o, o < 4 → NInv B o) (x : Int32) : f_Model_globalOne B x = some (oi 0 (gO B x)) := by
  rw [f_Model_globalOne, show (1100 : Nat) = 1095 + 1 + 1 + 1 + 1 + 1 from rfl, lp2_s, glo_s (h 3 (by omega)) (by omega) x _ 3 (-1) rfl, lp2_s, glo_s (h 2 (by omega)) (by omega) x _ (3 + -1) _ (by decide), lp2_s, glo_s (h 1 (by omega)) (by omega) x _ (3 + -1 + -1) _ (by decide), lp2_s, glo_s (h 0 (by omega)) (by omega) x _ (3 + -1 + -1 + -1) _ (by decide), lp2_s, g_Model_globalOne_4, if_pos (by decide), gO]
  cases dG B 0 x <;> cases dG B 1 x <;> cases dG B 2 x <;> cases dG B 3 x <;> simp [oi]
theorem gO_lt {B : sm_M} (h : ∀ o, o < 4 → NInv B o) {x : Int32} {i : Nat} (e : gO B x = some i) : i < 32 := by
  unfold gO at e
  cases e0 : dG B 0 x with
  | some d => rw [e0] at e; have := dG_lt (h 0 (by omega)) e0; simp at e; omega
  | none =>
    cases e1 : dG B 1 x with
    | some d => rw [e0, e1] at e; have := dG_lt (h 1 (by omega)) e1; simp at e; omega
    | none =>
      cases e2 : dG B 2 x with
      | some d => rw [e0, e1, e2] at e; have := dG_lt (h 2 (by omega)) e2; simp at e; omega
      | none =>
        cases e3 : dG B 3 x with
        | some d => rw [e0, e1, e2, e3] at e; have := dG_lt (h 3 (by omega)) e3; simp at e; omega
        | none => rw [e0, e1, e2, e3] at e; simp at e
def oV (B : sm_M) (ST : Nat → Int32) : Option Nat → Int32
  | none => -1
  | some i => vV B ST i
theorem fG_gO {B : sm_M} {ST : Nat → Int32} {x : Int32} (h : ¬ dbl B x) : fG B ST x = oV B ST (gO B x) := by
  unfold dbl at h
  have a0 := cG0 B 0 x
  have a1 := cG0 B 1 x
  have a2 := cG0 B 2 x
  have a3 := cG0 B 3 x
  unfold fG sV gO
  cases e0 : dG B 0 x <;> cases e1 : dG B 1 x <;> cases e2 : dG B 2 x <;> cases e3 : dG B 3 x <;> rw [e0] at a0 <;> rw [e1] at a1 <;> rw [e2] at a2 <;> rw [e3] at a3 <;> simp only [reduceCtorEq, iff_false, iff_true] at a0 a1 a2 a3 <;> first | rfl | (exfalso; omega)
def nd (B : sm_M) (o : Nat) (x : Int32) : Option Nat := match dA B o x with
  | some d => some (8 * o + d)
  | none => gO B x
theorem nd_lt {B : sm_M} (h : ∀ o, o < 4 → NInv B o) {o : Nat} (h4 : o < 4) {x : Int32} {i : Nat} (e : nd B o x = some i) : i < 32 := by
  unfold nd at e
  cases e0 : dA B o x with
  | some d => rw [e0] at e; have := dA_lt (h o h4) e0; simp at e; omega
  | none => rw [e0] at e; exact gO_lt h e
theorem nee_m {B : sm_M} (h : ∀ o, o < 4 → NInv B o) {o : Int32} {on : Nat} (ho : o.toInt = on) (h4 : on < 4) (x : Int32) : f_Model_needed B o x = some (oi 0 (nd B on x)) := by
  rw [f_Model_needed, fm_any ho h4 (h on h4), i_b1, nd]
  cases e : dA B on x with
  | none => rw [oi, if_pos rfl, glo_m h, i_b1]
  | some d =>
    have d8 := dA_lt (h on h4) e
    have dt : (Int32.ofNat (8 * on + d)).toInt = 8 * on + d := by rw [t_of (by omega)]; omega
    rw [oi, if_neg (fun z => by have := congrArg Int32.toInt z; rw [dt, t_m1] at this; omega)]
    simp [oi]
theorem adf_c {A : sm_M} {ST : Nat → Int32} (h : ∀ o, o < 4 → NInv A o) (h59 : ∀ o s, o < 4 → s < 2 → A 59 (4 * s + o) = ST (2 * o + s)) (h60 : ∀ j, j < 16 → A 60 j = oV A ST (gO A (Int32.ofNat j))) {o : Int32} {on : Nat} (ho : o.toInt = on) (h4 : on < 4) {x : Int32} (hx0 : 0 ≤ x.toInt) (hx1 : x.toInt < 16) : f_Linker_addressFor A o x = some (oV A ST (nd A on x)) := by
  have o2 : o.toNatClampNeg = on := by rw [t_n]; omega
  rw [f_Linker_addressFor, i_gd (by omega) (by omega), i_nm, o2, fc_def (h on h4), i_b1, nd]
  cases e : dA A on x with
  | none => rw [oi, if_pos rfl, i_gd (by omega) (by omega), t_n, h60 _ (by omega), of_t (w := x) (by omega)]
  | some d =>
    have d8 := dA_lt (h on h4) e
    have dt : (Int32.ofNat (0 + d)).toInt = d := by rw [t_of (by omega)]; omega
    rw [oi, if_neg (fun z => by have := congrArg Int32.toInt z; rw [dt, t_m1] at this; omega), c_dfa h h59 ho h4 dt d8, i_b1]
    rfl
theorem oV_m1 {A : sm_M} {ST : Nat → Int32} (hS : stOK ST) (h : ∀ o, o < 4 → NInv A o) {y : Option Nat} (hy : ∀ i, y = some i → i < 32) : oV A ST y = -1 ↔ y = none := by
  cases y with
  | none => simp [oV]
  | some i =>
    have := vV_t hS h (hy i rfl)
    simp only [oV, reduceCtorEq, iff_false]
    intro z
    rw [z, t_m1] at this
    omega
