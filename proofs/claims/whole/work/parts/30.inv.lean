theorem i_b1 {α β : Type} (x : α) (k : α → Option β) : sm_b1 (some x) k = k x := rfl
theorem i_b2 {α β γ : Type} (x : α × β) (k : α → β → Option γ) : sm_b2 (some x) k = k x.1 x.2 := rfl
theorem i_b3 {α β γ δ : Type} (x : α × β × γ) (k : α → β → γ → Option δ) : sm_b3 (some x) k = k x.1 x.2.1 x.2.2 := rfl
theorem i_nm {α β : Type} (x : α) (k : α → β) : sm_nm x k = k x := rfl
theorem i_bo0 {α : Type} (k : Option α) : sm_bo 0 k = k := rfl
theorem i_bo1 {α : Type} (k : Option α) : sm_bo 1 k = k := rfl
theorem i_b1i {α β : Type} {c : Prop} [Decidable c] (x y : Option α) (k : α → Option β) : sm_b1 (if c then x else y) k = if c then sm_b1 x k else sm_b1 y k := by split <;> rfl
theorem i_b2i {α β γ : Type} {c : Prop} [Decidable c] (x y : Option (α × β)) (k : α → β → Option γ) : sm_b2 (if c then x else y) k = if c then sm_b2 x k else sm_b2 y k := by split <;> rfl
theorem i_up (M : sm_M) (k j : Nat) (x : Int32) (a b : Nat) : sm_up M k j x a b = if a = k ∧ b = j then x else M a b := by
  unfold sm_up upd
  by_cases h : a = k
  · subst h
    by_cases g : b = j <;> simp [g]
  · simp [h]
theorem i_gd {α : Type} {i : Int32} {n : Nat} {k : Option α} (h0 : 0 ≤ i.toInt) (h1 : i.toInt < n) : sm_gd i n k = k := by
  unfold sm_gd
  rw [if_neg]
  simp only [Int32.lt_iff_toInt_lt, Int32.toNatClampNeg, Int32.reduceToInt]
  omega
theorem i_1 : ((1 : Int32) = 0) = False := by simp
theorem u_isC (op c : Int32) : f_Model_isC op c = f_Instr_canHold op c := by
  simp [f_Model_isC, f_Instr_canHold, f_Model_placeOf, f_Instr_isThreeRegisters, f_Instr_numberAt, f_Mill_fitsSigned, f_Model_fits, f_Model_within, f_Mill_isBelow, i_nm, i_b1, i_b1i, i_bo0, i_bo1]
  grind
theorem u_packed (op a b c : Int32) : f_Model_packed op a b c = f_Instr_encoded op a b c := by
  simp [f_Model_packed, f_Instr_encoded, f_Model_placeOf, f_Instr_isThreeRegisters, f_Instr_numberAt, j_Model_packed_54, j_Model_packed_42, j_Model_packed_18, j_Instr_encoded_57, i_nm, i_b1, i_b1i, i_bo0, i_bo1]
  have h0 : (0:Int32) ||| 0 = 0 := rfl
  grind
theorem u_below {a n : Int32} (h : f_Mill_isBelow a n = some 1 ∨ f_Mill_isBelow a n = some 0): True := trivial
theorem u_within (a m : Int32) (hm : m < 1000) : f_Model_within a 0 m = f_Mill_isBelow a (m + 1) := by
  simp only [f_Model_within, f_Mill_isBelow]
  grind
def CInv (M : sm_M) (o : Nat) : Prop := (M (3 + 14 * o + 1) 1 = M 70 (2 * o)) ∧ (0 ≤ (M 70 (2 * o)).toInt ∧ (M 70 (2 * o)).toInt ≤ 24) ∧ (∀ j : Nat, j < 24 → M (3 + 14 * o + 2) j = M 69 (48 * o + j))
theorem CInv.cc {M : sm_M} {o : Nat} (h : CInv M o) : M (3 + 14 * o + 1) 1 = M 70 (2 * o) := h.1
theorem CInv.cr {M : sm_M} {o : Nat} (h : CInv M o) : 0 ≤ (M 70 (2 * o)).toInt ∧ (M 70 (2 * o)).toInt ≤ 24 := h.2.1
theorem CInv.cw {M : sm_M} {o : Nat} (h : CInv M o) : ∀ j : Nat, j < 24 → M (3 + 14 * o + 2) j = M 69 (48 * o + j) := h.2.2
def ownC (o k j : Nat) : Prop := (k = 3 + 14 * o + 1 ∧ j = 1) ∨ k = 3 + 14 * o + 2 ∨ (k = 70 ∧ j = 2 * o) ∨ (k = 69 ∧ 48 * o ≤ j ∧ j < 48 * o + 24)
theorem CInv.congr {M M' : sm_M} {o : Nat} (h : CInv M o) (e : ∀ k j, ownC o k j → M' k j = M k j) : CInv M' o := by
  refine ⟨?_, ?_, ?_⟩
  · rw [e (3 + 14 * o + 1) 1 (by unfold ownC; omega), e 70 (2 * o) (by unfold ownC; omega)]; exact h.cc
  · rw [e 70 (2 * o) (by unfold ownC; omega)]; exact h.cr
  · intro j hj; rw [e (3 + 14 * o + 2) j (by unfold ownC; omega), e 69 (48 * o + j) (by unfold ownC; omega)]; exact h.cw j hj
def DInv (M : sm_M) (o : Nat) : Prop := (M (3 + 14 * o + 3) 1 = M 70 (2 * o + 1)) ∧ (0 ≤ (M 70 (2 * o + 1)).toInt ∧ (M 70 (2 * o + 1)).toInt ≤ 12) ∧ (∀ j : Nat, j < 12 → M (3 + 14 * o + 4) j = M 69 (48 * o + 24 + j))
theorem DInv.dc {M : sm_M} {o : Nat} (h : DInv M o) : M (3 + 14 * o + 3) 1 = M 70 (2 * o + 1) := h.1
theorem DInv.dr {M : sm_M} {o : Nat} (h : DInv M o) : 0 ≤ (M 70 (2 * o + 1)).toInt ∧ (M 70 (2 * o + 1)).toInt ≤ 12 := h.2.1
theorem DInv.dw {M : sm_M} {o : Nat} (h : DInv M o) : ∀ j : Nat, j < 12 → M (3 + 14 * o + 4) j = M 69 (48 * o + 24 + j) := h.2.2
def ownD (o k j : Nat) : Prop := (k = 3 + 14 * o + 3 ∧ j = 1) ∨ k = 3 + 14 * o + 4 ∨ (k = 70 ∧ j = 2 * o + 1) ∨ (k = 69 ∧ 48 * o + 24 ≤ j ∧ j < 48 * o + 36)
theorem DInv.congr {M M' : sm_M} {o : Nat} (h : DInv M o) (e : ∀ k j, ownD o k j → M' k j = M k j) : DInv M' o := by
  refine ⟨?_, ?_, ?_⟩
  · rw [e (3 + 14 * o + 3) 1 (by unfold ownD; omega), e 70 (2 * o + 1) (by unfold ownD; omega)]; exact h.dc
  · rw [e 70 (2 * o + 1) (by unfold ownD; omega)]; exact h.dr
  · intro j hj; rw [e (3 + 14 * o + 4) j (by unfold ownD; omega), e 69 (48 * o + 24 + j) (by unfold ownD; omega)]; exact h.dw j hj
def NInv (M : sm_M) (o : Nat) : Prop := (M (3 + 14 * o) 6 = M 71 o) ∧ (0 ≤ (M 71 o).toInt ∧ (M 71 o).toInt ≤ 8) ∧ (∀ j : Nat, j < 8 → M (3 + 14 * o + 5) j = M 72 (8 * o + j)) ∧ (∀ j : Nat, j < 8 → 0 ≤ (M 72 (8 * o + j)).toInt ∧ (M 72 (8 * o + j)).toInt < 16) ∧ (∀ j : Nat, j < 8 → M (3 + 14 * o + 6) j = M 73 (8 * o + j)) ∧ (∀ j : Nat, j < 8 → M 73 (8 * o + j) = 0 ∨ M 73 (8 * o + j) = 1) ∧ (∀ j : Nat, j < 8 → M (3 + 14 * o + 7) j = M 74 (8 * o + j)) ∧ (∀ j : Nat, j < 8 → 0 ≤ (M 74 (8 * o + j)).toInt ∧ (M 74 (8 * o + j)).toInt ≤ 24) ∧ (∀ j : Nat, j < 8 → M (3 + 14 * o + 8) j = M 75 (8 * o + j)) ∧ (∀ j : Nat, j < 8 → M 75 (8 * o + j) = 0 ∨ M 75 (8 * o + j) = 1)
theorem NInv.nd {M : sm_M} {o : Nat} (h : NInv M o) : M (3 + 14 * o) 6 = M 71 o := h.1
theorem NInv.ndr {M : sm_M} {o : Nat} (h : NInv M o) : 0 ≤ (M 71 o).toInt ∧ (M 71 o).toInt ≤ 8 := h.2.1
theorem NInv.dn {M : sm_M} {o : Nat} (h : NInv M o) : ∀ j : Nat, j < 8 → M (3 + 14 * o + 5) j = M 72 (8 * o + j) := h.2.2.1
theorem NInv.dnr {M : sm_M} {o : Nat} (h : NInv M o) : ∀ j : Nat, j < 8 → 0 ≤ (M 72 (8 * o + j)).toInt ∧ (M 72 (8 * o + j)).toInt < 16 := h.2.2.2.1
theorem NInv.ds {M : sm_M} {o : Nat} (h : NInv M o) : ∀ j : Nat, j < 8 → M (3 + 14 * o + 6) j = M 73 (8 * o + j) := h.2.2.2.2.1
theorem NInv.dsr {M : sm_M} {o : Nat} (h : NInv M o) : ∀ j : Nat, j < 8 → M 73 (8 * o + j) = 0 ∨ M 73 (8 * o + j) = 1 := h.2.2.2.2.2.1
theorem NInv.dp {M : sm_M} {o : Nat} (h : NInv M o) : ∀ j : Nat, j < 8 → M (3 + 14 * o + 7) j = M 74 (8 * o + j) := h.2.2.2.2.2.2.1
theorem NInv.dpr {M : sm_M} {o : Nat} (h : NInv M o) : ∀ j : Nat, j < 8 → 0 ≤ (M 74 (8 * o + j)).toInt ∧ (M 74 (8 * o + j)).toInt ≤ 24 := h.2.2.2.2.2.2.2.1
theorem NInv.dg {M : sm_M} {o : Nat} (h : NInv M o) : ∀ j : Nat, j < 8 → M (3 + 14 * o + 8) j = M 75 (8 * o + j) := h.2.2.2.2.2.2.2.2.1
theorem NInv.dgr {M : sm_M} {o : Nat} (h : NInv M o) : ∀ j : Nat, j < 8 → M 75 (8 * o + j) = 0 ∨ M 75 (8 * o + j) = 1 := h.2.2.2.2.2.2.2.2.2
def ownN (o k j : Nat) : Prop := (k = 3 + 14 * o ∧ j = 6) ∨ (3 + 14 * o + 5 ≤ k ∧ k ≤ 3 + 14 * o + 8) ∨ (k = 71 ∧ j = o) ∨ (72 ≤ k ∧ k ≤ 75 ∧ 8 * o ≤ j ∧ j < 8 * o + 8)
theorem NInv.congr {M M' : sm_M} {o : Nat} (h : NInv M o) (e : ∀ k j, ownN o k j → M' k j = M k j) : NInv M' o := by
  refine ⟨?_, ?_, ?_, ?_, ?_, ?_, ?_, ?_, ?_, ?_⟩
  · rw [e (3 + 14 * o) 6 (by unfold ownN; omega), e 71 o (by unfold ownN; omega)]; exact h.nd
  · rw [e 71 o (by unfold ownN; omega)]; exact h.ndr
  · intro j hj; rw [e (3 + 14 * o + 5) j (by unfold ownN; omega), e 72 (8 * o + j) (by unfold ownN; omega)]; exact h.dn j hj
  · intro j hj; rw [e 72 (8 * o + j) (by unfold ownN; omega)]; exact h.dnr j hj
  · intro j hj; rw [e (3 + 14 * o + 6) j (by unfold ownN; omega), e 73 (8 * o + j) (by unfold ownN; omega)]; exact h.ds j hj
  · intro j hj; rw [e 73 (8 * o + j) (by unfold ownN; omega)]; exact h.dsr j hj
  · intro j hj; rw [e (3 + 14 * o + 7) j (by unfold ownN; omega), e 74 (8 * o + j) (by unfold ownN; omega)]; exact h.dp j hj
  · intro j hj; rw [e 74 (8 * o + j) (by unfold ownN; omega)]; exact h.dpr j hj
  · intro j hj; rw [e (3 + 14 * o + 8) j (by unfold ownN; omega), e 75 (8 * o + j) (by unfold ownN; omega)]; exact h.dg j hj
  · intro j hj; rw [e 75 (8 * o + j) (by unfold ownN; omega)]; exact h.dgr j hj
def FInv (M : sm_M) (o : Nat) : Prop := (M (3 + 14 * o) 12 = M 76 o) ∧ (0 ≤ (M 76 o).toInt ∧ (M 76 o).toInt ≤ 16) ∧ (∀ j : Nat, j < 16 → M (3 + 14 * o + 9) j = M 77 (16 * o + j)) ∧ (∀ j : Nat, j < 16 → M 77 (16 * o + j) = 0 ∨ M 77 (16 * o + j) = 1) ∧ (∀ j : Nat, j < 16 → M (3 + 14 * o + 10) j = M 78 (16 * o + j)) ∧ (∀ j : Nat, j < 16 → 0 ≤ (M 78 (16 * o + j)).toInt ∧ (M 78 (16 * o + j)).toInt < 24) ∧ (∀ j : Nat, j < 16 → M (3 + 14 * o + 11) j = M 79 (16 * o + j)) ∧ (∀ j : Nat, j < 16 → 0 ≤ (M 79 (16 * o + j)).toInt ∧ (M 79 (16 * o + j)).toInt < 5) ∧ (∀ j : Nat, j < 16 → M (3 + 14 * o + 12) j = M 80 (16 * o + j)) ∧ (∀ j : Nat, j < 16 → 0 ≤ (M 80 (16 * o + j)).toInt ∧ (M 80 (16 * o + j)).toInt < 16) ∧ (∀ j : Nat, j < 16 → M (3 + 14 * o + 13) j = M 81 (16 * o + j)) ∧ (∀ j : Nat, j < 16 → -20000 ≤ (M 81 (16 * o + j)).toInt ∧ (M 81 (16 * o + j)).toInt ≤ 20000)
theorem FInv.nf {M : sm_M} {o : Nat} (h : FInv M o) : M (3 + 14 * o) 12 = M 76 o := h.1
theorem FInv.nfr {M : sm_M} {o : Nat} (h : FInv M o) : 0 ≤ (M 76 o).toInt ∧ (M 76 o).toInt ≤ 16 := h.2.1
theorem FInv.fs {M : sm_M} {o : Nat} (h : FInv M o) : ∀ j : Nat, j < 16 → M (3 + 14 * o + 9) j = M 77 (16 * o + j) := h.2.2.1
theorem FInv.fsr {M : sm_M} {o : Nat} (h : FInv M o) : ∀ j : Nat, j < 16 → M 77 (16 * o + j) = 0 ∨ M 77 (16 * o + j) = 1 := h.2.2.2.1
theorem FInv.fp {M : sm_M} {o : Nat} (h : FInv M o) : ∀ j : Nat, j < 16 → M (3 + 14 * o + 10) j = M 78 (16 * o + j) := h.2.2.2.2.1
theorem FInv.fpr {M : sm_M} {o : Nat} (h : FInv M o) : ∀ j : Nat, j < 16 → 0 ≤ (M 78 (16 * o + j)).toInt ∧ (M 78 (16 * o + j)).toInt < 24 := h.2.2.2.2.2.1
theorem FInv.fk {M : sm_M} {o : Nat} (h : FInv M o) : ∀ j : Nat, j < 16 → M (3 + 14 * o + 11) j = M 79 (16 * o + j) := h.2.2.2.2.2.2.1
theorem FInv.fkr {M : sm_M} {o : Nat} (h : FInv M o) : ∀ j : Nat, j < 16 → 0 ≤ (M 79 (16 * o + j)).toInt ∧ (M 79 (16 * o + j)).toInt < 5 := h.2.2.2.2.2.2.2.1
theorem FInv.fn {M : sm_M} {o : Nat} (h : FInv M o) : ∀ j : Nat, j < 16 → M (3 + 14 * o + 12) j = M 80 (16 * o + j) := h.2.2.2.2.2.2.2.2.1
theorem FInv.fnr {M : sm_M} {o : Nat} (h : FInv M o) : ∀ j : Nat, j < 16 → 0 ≤ (M 80 (16 * o + j)).toInt ∧ (M 80 (16 * o + j)).toInt < 16 := h.2.2.2.2.2.2.2.2.2.1
theorem FInv.fa {M : sm_M} {o : Nat} (h : FInv M o) : ∀ j : Nat, j < 16 → M (3 + 14 * o + 13) j = M 81 (16 * o + j) := h.2.2.2.2.2.2.2.2.2.2.1
theorem FInv.far {M : sm_M} {o : Nat} (h : FInv M o) : ∀ j : Nat, j < 16 → -20000 ≤ (M 81 (16 * o + j)).toInt ∧ (M 81 (16 * o + j)).toInt ≤ 20000 := h.2.2.2.2.2.2.2.2.2.2.2
def ownF (o k j : Nat) : Prop := (k = 3 + 14 * o ∧ j = 12) ∨ (3 + 14 * o + 9 ≤ k ∧ k ≤ 3 + 14 * o + 13) ∨ (k = 76 ∧ j = o) ∨ (77 ≤ k ∧ k ≤ 81 ∧ 16 * o ≤ j ∧ j < 16 * o + 16)
theorem FInv.congr {M M' : sm_M} {o : Nat} (h : FInv M o) (e : ∀ k j, ownF o k j → M' k j = M k j) : FInv M' o := by
  refine ⟨?_, ?_, ?_, ?_, ?_, ?_, ?_, ?_, ?_, ?_, ?_, ?_⟩
  · rw [e (3 + 14 * o) 12 (by unfold ownF; omega), e 76 o (by unfold ownF; omega)]; exact h.nf
  · rw [e 76 o (by unfold ownF; omega)]; exact h.nfr
  · intro j hj; rw [e (3 + 14 * o + 9) j (by unfold ownF; omega), e 77 (16 * o + j) (by unfold ownF; omega)]; exact h.fs j hj
  · intro j hj; rw [e 77 (16 * o + j) (by unfold ownF; omega)]; exact h.fsr j hj
  · intro j hj; rw [e (3 + 14 * o + 10) j (by unfold ownF; omega), e 78 (16 * o + j) (by unfold ownF; omega)]; exact h.fp j hj
  · intro j hj; rw [e 78 (16 * o + j) (by unfold ownF; omega)]; exact h.fpr j hj
  · intro j hj; rw [e (3 + 14 * o + 11) j (by unfold ownF; omega), e 79 (16 * o + j) (by unfold ownF; omega)]; exact h.fk j hj
  · intro j hj; rw [e 79 (16 * o + j) (by unfold ownF; omega)]; exact h.fkr j hj
  · intro j hj; rw [e (3 + 14 * o + 12) j (by unfold ownF; omega), e 80 (16 * o + j) (by unfold ownF; omega)]; exact h.fn j hj
  · intro j hj; rw [e 80 (16 * o + j) (by unfold ownF; omega)]; exact h.fnr j hj
  · intro j hj; rw [e (3 + 14 * o + 13) j (by unfold ownF; omega), e 81 (16 * o + j) (by unfold ownF; omega)]; exact h.fa j hj
  · intro j hj; rw [e 81 (16 * o + j) (by unfold ownF; omega)]; exact h.far j hj
def XInv (M : sm_M) (o : Nat) : Prop := (∀ j : Nat, j < 16 → (j : Int) < (M 76 o).toInt → M 77 (16 * o + j) = 0 → (M 78 (16 * o + j)).toInt < (M 70 (2 * o)).toInt) ∧ (∀ j : Nat, j < 16 → (j : Int) < (M 76 o).toInt → M 77 (16 * o + j) = 1 → (M 78 (16 * o + j)).toInt < (M 70 (2 * o + 1)).toInt)
theorem XInv.xc {M : sm_M} {o : Nat} (h : XInv M o) : ∀ j : Nat, j < 16 → (j : Int) < (M 76 o).toInt → M 77 (16 * o + j) = 0 → (M 78 (16 * o + j)).toInt < (M 70 (2 * o)).toInt := h.1
theorem XInv.xd {M : sm_M} {o : Nat} (h : XInv M o) : ∀ j : Nat, j < 16 → (j : Int) < (M 76 o).toInt → M 77 (16 * o + j) = 1 → (M 78 (16 * o + j)).toInt < (M 70 (2 * o + 1)).toInt := h.2
def ownX (o k j : Nat) : Prop := (k = 76 ∧ j = o) ∨ ((k = 77 ∨ k = 78) ∧ 16 * o ≤ j ∧ j < 16 * o + 16) ∨ (k = 70 ∧ (j = 2 * o ∨ j = 2 * o + 1))
theorem XInv.congr {M M' : sm_M} {o : Nat} (h : XInv M o) (e : ∀ k j, ownX o k j → M' k j = M k j) : XInv M' o := by
  refine ⟨?_, ?_⟩
  · intro j hj; rw [e 76 o (by unfold ownX; omega), e 77 (16 * o + j) (by unfold ownX; omega), e 78 (16 * o + j) (by unfold ownX; omega), e 70 (2 * o) (by unfold ownX; omega)]; exact h.xc j hj
  · intro j hj; rw [e 76 o (by unfold ownX; omega), e 77 (16 * o + j) (by unfold ownX; omega), e 78 (16 * o + j) (by unfold ownX; omega), e 70 (2 * o + 1) (by unfold ownX; omega)]; exact h.xd j hj
def PInv (M : sm_M) (o : Nat) : Prop := (CInv M o) ∧ (DInv M o) ∧ (NInv M o) ∧ (FInv M o) ∧ (XInv M o)
theorem PInv.C {M : sm_M} {o : Nat} (h : PInv M o) : CInv M o := h.1
theorem PInv.D {M : sm_M} {o : Nat} (h : PInv M o) : DInv M o := h.2.1
theorem PInv.N {M : sm_M} {o : Nat} (h : PInv M o) : NInv M o := h.2.2.1
theorem PInv.F {M : sm_M} {o : Nat} (h : PInv M o) : FInv M o := h.2.2.2.1
theorem PInv.X {M : sm_M} {o : Nat} (h : PInv M o) : XInv M o := h.2.2.2.2
def ownP (o k j : Nat) : Prop := (3 + 14 * o ≤ k ∧ k < 17 + 14 * o) ∨ (k = 69 ∧ 48 * o ≤ j ∧ j < 48 * o + 48) ∨ (k = 70 ∧ 2 * o ≤ j ∧ j < 2 * o + 2) ∨ ((k = 71 ∨ k = 76) ∧ j = o) ∨ (72 ≤ k ∧ k ≤ 75 ∧ 8 * o ≤ j ∧ j < 8 * o + 8) ∨ (77 ≤ k ∧ k ≤ 81 ∧ 16 * o ≤ j ∧ j < 16 * o + 16)
theorem PInv.congr {M M' : sm_M} {o : Nat} (h : PInv M o) (e : ∀ k j, ownP o k j → M' k j = M k j) : PInv M' o :=
  ⟨h.C.congr fun k j w => e k j (by unfold ownC at w; unfold ownP; omega), h.D.congr fun k j w => e k j (by unfold ownD at w; unfold ownP; omega), h.N.congr fun k j w => e k j (by unfold ownN at w; unfold ownP; omega), h.F.congr fun k j w => e k j (by unfold ownF at w; unfold ownP; omega), h.X.congr fun k j w => e k j (by unfold ownX at w; unfold ownP; omega)⟩
def VInv (M : sm_M) : Prop := (∀ j : Nat, j < 16 → M 61 j = if M 84 j = 0 then -1 else M 85 j) ∧ (∀ j : Nat, j < 16 → M 84 j = 0 ∨ M 84 j = 1)
theorem VInv.va {M : sm_M} (h : VInv M) : ∀ j : Nat, j < 16 → M 61 j = if M 84 j = 0 then -1 else M 85 j := h.1
theorem VInv.var {M : sm_M} (h : VInv M) : ∀ j : Nat, j < 16 → M 84 j = 0 ∨ M 84 j = 1 := h.2
def ownV (k j : Nat) : Prop := k = 61 ∨ k = 84 ∨ k = 85
theorem VInv.congr {M M' : sm_M} (h : VInv M) (e : ∀ k j, ownV k j → M' k j = M k j) : VInv M' := by
  have a : ∀ j, M' 61 j = M 61 j := fun j => e _ _ (Or.inl rfl)
  have b : ∀ j, M' 84 j = M 84 j := fun j => e _ _ (Or.inr (Or.inl rfl))
  have c : ∀ j, M' 85 j = M 85 j := fun j => e _ _ (Or.inr (Or.inr rfl))
  exact ⟨fun j hj => by rw [a, b, c]; exact h.va j hj, fun j hj => by rw [b]; exact h.var j hj⟩
def IInv (M : sm_M) : Prop := (M 62 1 = M 68 18) ∧ (0 ≤ (M 68 18).toInt ∧ (M 68 18).toInt ≤ 1000) ∧ (∀ j : Nat, j < 1000 → M 63 j = M 86 j)
theorem IInv.sz {M : sm_M} (h : IInv M) : M 62 1 = M 68 18 := h.1
theorem IInv.szr {M : sm_M} (h : IInv M) : 0 ≤ (M 68 18).toInt ∧ (M 68 18).toInt ≤ 1000 := h.2.1
theorem IInv.im {M : sm_M} (h : IInv M) : ∀ j : Nat, j < 1000 → M 63 j = M 86 j := h.2.2
def ownI (k j : Nat) : Prop := k = 62 ∨ k = 63 ∨ k = 86 ∨ (k = 68 ∧ j = 18)
theorem IInv.congr {M M' : sm_M} (h : IInv M) (e : ∀ k j, ownI k j → M' k j = M k j) : IInv M' := by
  have a : M' 62 1 = M 62 1 := e _ _ (by unfold ownI; omega)
  have b : M' 68 18 = M 68 18 := e _ _ (by unfold ownI; omega)
  have c : ∀ j, M' 63 j = M 63 j := fun j => e _ _ (by unfold ownI; omega)
  have d : ∀ j, M' 86 j = M 86 j := fun j => e _ _ (by unfold ownI; omega)
  exact ⟨by rw [a, b]; exact h.sz, by rw [b]; exact h.szr, fun j hj => by rw [c, d]; exact h.im j hj⟩
def MInv2 (n : Nat) (A B : sm_M) : Prop := (A 64 3 = B 68 20) ∧ (A 64 4 = B 68 21) ∧ (A 64 5 = B 68 22) ∧ (A 64 6 = B 68 23) ∧ (A 64 7 = B 68 25) ∧ (A 64 8 = B 68 26) ∧ (A 64 9 = B 68 27) ∧ (A 64 10 = B 68 29) ∧ (∀ j : Nat, j < 32 → A 66 j = B 88 j) ∧ (B 88 0 = 0) ∧ (∀ j : Nat, j < 241 → A 65 j = B 87 j) ∧ (∀ j : Nat, j < 16 → A 67 j = B 89 j) ∧ (0 ≤ (B 68 21).toInt ∧ 0 ≤ (B 68 23).toInt ∧ (B 68 21).toInt + (B 68 23).toInt ≤ 241) ∧ (B 68 25 = 0 → B 68 21 = 0 ∧ B 68 23 = 0) ∧ (0 ≤ (B 68 29).toInt ∧ (B 68 29).toInt ≤ n)
theorem MInv2.m3 {n : Nat} {A B : sm_M} (h : MInv2 n A B) : A 64 3 = B 68 20 := h.1
theorem MInv2.m4 {n : Nat} {A B : sm_M} (h : MInv2 n A B) : A 64 4 = B 68 21 := h.2.1
theorem MInv2.m5 {n : Nat} {A B : sm_M} (h : MInv2 n A B) : A 64 5 = B 68 22 := h.2.2.1
theorem MInv2.m6 {n : Nat} {A B : sm_M} (h : MInv2 n A B) : A 64 6 = B 68 23 := h.2.2.2.1
theorem MInv2.m7 {n : Nat} {A B : sm_M} (h : MInv2 n A B) : A 64 7 = B 68 25 := h.2.2.2.2.1
theorem MInv2.m8 {n : Nat} {A B : sm_M} (h : MInv2 n A B) : A 64 8 = B 68 26 := h.2.2.2.2.2.1
theorem MInv2.m9 {n : Nat} {A B : sm_M} (h : MInv2 n A B) : A 64 9 = B 68 27 := h.2.2.2.2.2.2.1
theorem MInv2.m10 {n : Nat} {A B : sm_M} (h : MInv2 n A B) : A 64 10 = B 68 29 := h.2.2.2.2.2.2.2.1
theorem MInv2.rg {n : Nat} {A B : sm_M} (h : MInv2 n A B) : ∀ j : Nat, j < 32 → A 66 j = B 88 j := h.2.2.2.2.2.2.2.2.1
theorem MInv2.rg0 {n : Nat} {A B : sm_M} (h : MInv2 n A B) : B 88 0 = 0 := h.2.2.2.2.2.2.2.2.2.1
theorem MInv2.mw {n : Nat} {A B : sm_M} (h : MInv2 n A B) : ∀ j : Nat, j < 241 → A 65 j = B 87 j := h.2.2.2.2.2.2.2.2.2.2.1
theorem MInv2.ln {n : Nat} {A B : sm_M} (h : MInv2 n A B) : ∀ j : Nat, j < 16 → A 67 j = B 89 j := h.2.2.2.2.2.2.2.2.2.2.2.1
theorem MInv2.cwr {n : Nat} {A B : sm_M} (h : MInv2 n A B) : 0 ≤ (B 68 21).toInt ∧ 0 ≤ (B 68 23).toInt ∧ (B 68 21).toInt + (B 68 23).toInt ≤ 241 := h.2.2.2.2.2.2.2.2.2.2.2.2.1
theorem MInv2.st0 {n : Nat} {A B : sm_M} (h : MInv2 n A B) : B 68 25 = 0 → B 68 21 = 0 ∧ B 68 23 = 0 := h.2.2.2.2.2.2.2.2.2.2.2.2.2.1
theorem MInv2.sh {n : Nat} {A B : sm_M} (h : MInv2 n A B) : 0 ≤ (B 68 29).toInt ∧ (B 68 29).toInt ≤ n := h.2.2.2.2.2.2.2.2.2.2.2.2.2.2
abbrev MInv (n : Nat) (M : sm_M) : Prop := MInv2 n M M
def ownM (k j : Nat) : Prop := (64 ≤ k ∧ k ≤ 67) ∨ (87 ≤ k ∧ k ≤ 89) ∨ (k = 68 ∧ 20 ≤ j)
theorem MInv2.congr {n : Nat} {A A' B B' : sm_M} (h : MInv2 n A B) (eA : ∀ k j, 64 ≤ k ∧ k ≤ 67 → A' k j = A k j) (eB : ∀ k j, (87 ≤ k ∧ k ≤ 89) ∨ (k = 68 ∧ 20 ≤ j) → B' k j = B k j) : MInv2 n A' B' := by
  have a : ∀ j : Nat, 20 ≤ j → B' 68 j = B 68 j := fun j hj => eB _ _ (by omega)
  have b : ∀ j : Nat, A' 64 j = A 64 j := fun j => eA _ _ (by omega)
  have c : ∀ j : Nat, A' 65 j = A 65 j := fun j => eA _ _ (by omega)
  have d : ∀ j : Nat, A' 66 j = A 66 j := fun j => eA _ _ (by omega)
  have f : ∀ j : Nat, A' 67 j = A 67 j := fun j => eA _ _ (by omega)
  have g : ∀ j : Nat, B' 87 j = B 87 j := fun j => eB _ _ (by omega)
  have i : ∀ j : Nat, B' 88 j = B 88 j := fun j => eB _ _ (by omega)
  have q : ∀ j : Nat, B' 89 j = B 89 j := fun j => eB _ _ (by omega)
  refine ⟨?_, ?_, ?_, ?_, ?_, ?_, ?_, ?_, ?_, ?_, ?_, ?_, ?_, ?_, ?_⟩
  · rw [b, a 20 (by omega)]; exact h.m3
  · rw [b, a 21 (by omega)]; exact h.m4
  · rw [b, a 22 (by omega)]; exact h.m5
  · rw [b, a 23 (by omega)]; exact h.m6
  · rw [b, a 25 (by omega)]; exact h.m7
  · rw [b, a 26 (by omega)]; exact h.m8
  · rw [b, a 27 (by omega)]; exact h.m9
  · rw [b, a 29 (by omega)]; exact h.m10
  · intro j hj; rw [d, i]; exact h.rg j hj
  · rw [i]; exact h.rg0
  · intro j hj; rw [c, g]; exact h.mw j hj
  · intro j hj; rw [f, q]; exact h.ln j hj
  · rw [a 21 (by omega), a 23 (by omega)]; exact h.cwr
  · rw [a 25 (by omega), a 21 (by omega), a 23 (by omega)]; exact h.st0
  · rw [a 29 (by omega)]; exact h.sh
theorem MInv.congr {n : Nat} {M M' : sm_M} (h : MInv n M) (e : ∀ k j, ownM k j → M' k j = M k j) : MInv n M' :=
  MInv2.congr h (fun k j w => e k j (by unfold ownM; omega)) (fun k j w => e k j (by unfold ownM; omega))
def Inv (n : Nat) (M : sm_M) : Prop := (∀ o, o < 4 → PInv M o) ∧ (VInv M) ∧ (IInv M) ∧ (MInv n M)
theorem Inv.P {n : Nat} {M : sm_M} (h : Inv n M) : ∀ o, o < 4 → PInv M o := h.1
theorem Inv.V {n : Nat} {M : sm_M} (h : Inv n M) : VInv M := h.2.1
theorem Inv.I {n : Nat} {M : sm_M} (h : Inv n M) : IInv M := h.2.2.1
theorem Inv.K {n : Nat} {M : sm_M} (h : Inv n M) : MInv n M := h.2.2.2
/-- nothing of the invariant's cells differs -/
theorem Inv.congr {n : Nat} {M M' : sm_M} (h : Inv n M) (e : ∀ k j, ¬ (k = 68 ∧ j = 0) → ¬ (k = 82) → ¬ (k = 83) → ¬ (k = 59) → ¬ (k = 60) → ¬ (k = 1) → M' k j = M k j) : Inv n M' :=
  ⟨fun o ho => (h.P o ho).congr (fun k j w => e k j (by unfold ownP at w; omega) (by unfold ownP at w; omega) (by unfold ownP at w; omega) (by unfold ownP at w; omega) (by unfold ownP at w; omega) (by unfold ownP at w; omega)),
   h.V.congr (fun k j w => e k j (by unfold ownV at w; omega) (by unfold ownV at w; omega) (by unfold ownV at w; omega) (by unfold ownV at w; omega) (by unfold ownV at w; omega) (by unfold ownV at w; omega)),
   h.I.congr (fun k j w => e k j (by unfold ownI at w; omega) (by unfold ownI at w; omega) (by unfold ownI at w; omega) (by unfold ownI at w; omega) (by unfold ownI at w; omega) (by unfold ownI at w; omega)),
   h.K.congr (fun k j w => e k j (by unfold ownM at w; omega) (by unfold ownM at w; omega) (by unfold ownM at w; omega) (by unfold ownM at w; omega) (by unfold ownM at w; omega) (by unfold ownM at w; omega))⟩
theorem Inv.thr {n : Nat} {M : sm_M} (h : Inv n M) (x : Int32) : Inv n (sm_up M 68 0 x) := h.congr (fun k j w _ _ _ _ _ => by rw [i_up, if_neg w])
def opOK (n : Nat) (x : Option (Int32 × sm_M × sm_O)) (y : sm_M → Option (Int32 × sm_M)) : Prop := ∃ r M1 o1 b M2, x = some (r, M1, o1) ∧ y M1 = some (b, M2) ∧ M2 68 0 = r ∧ (r = 0 → o1 0 = b.toInt64) ∧ Inv n M2
