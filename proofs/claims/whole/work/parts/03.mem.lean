def sm_tbl : List ((Nat × Nat) ⊕ (Nat × List (Option Nat))) := [.inr (0, [some 1, some 62, some 64]),
  .inr (3, [some 2, some 59, some 60, some 61, none, none, none, none]),
  .inl (3, 4),
  .inr (2, [some 4, some 6, some 8, some 9, some 10, some 11, none, some 12, some 13, some 14, some 15, some 16, none]),
  .inr (1, [some 5, none]),
  .inl (0, 24),
  .inr (1, [some 7, none]),
  .inl (0, 12),
  .inl (0, 8),
  .inl (0, 8),
  .inl (0, 8),
  .inl (1, 8),
  .inl (0, 16),
  .inl (0, 16),
  .inl (0, 16),
  .inl (0, 16),
  .inl (0, 16),
  .inr (2, [some 18, some 20, some 22, some 23, some 24, some 25, none, some 26, some 27, some 28, some 29, some 30, none]),
  .inr (1, [some 19, none]),
  .inl (0, 24),
  .inr (1, [some 21, none]),
  .inl (0, 12),
  .inl (0, 8),
  .inl (0, 8),
  .inl (0, 8),
  .inl (1, 8),
  .inl (0, 16),
  .inl (0, 16),
  .inl (0, 16),
  .inl (0, 16),
  .inl (0, 16),
  .inr (2, [some 32, some 34, some 36, some 37, some 38, some 39, none, some 40, some 41, some 42, some 43, some 44, none]),
  .inr (1, [some 33, none]),
  .inl (0, 24),
  .inr (1, [some 35, none]),
  .inl (0, 12),
  .inl (0, 8),
  .inl (0, 8),
  .inl (0, 8),
  .inl (1, 8),
  .inl (0, 16),
  .inl (0, 16),
  .inl (0, 16),
  .inl (0, 16),
  .inl (0, 16),
  .inr (2, [some 46, some 48, some 50, some 51, some 52, some 53, none, some 54, some 55, some 56, some 57, some 58, none]),
  .inr (1, [some 47, none]),
  .inl (0, 24),
  .inr (1, [some 49, none]),
  .inl (0, 12),
  .inl (0, 8),
  .inl (0, 8),
  .inl (0, 8),
  .inl (1, 8),
  .inl (0, 16),
  .inl (0, 16),
  .inl (0, 16),
  .inl (0, 16),
  .inl (0, 16),
  .inl (0, 8),
  .inl (0, 16),
  .inl (0, 16),
  .inr (4, [some 63, none]),
  .inl (0, 1000),
  .inr (5, [some 65, some 66, some 67, none, none, none, none, none, none, none, none]),
  .inl (0, 241),
  .inl (0, 32),
  .inl (0, 16),
  .inr (6, [none, some 69, some 70, some 71, some 72, some 73, some 74, some 75, some 76, some 77, some 78, some 79, some 80, some 81, some 82, some 83, some 84, some 85, none, some 86, none, none, none, none, some 87, none, none, none, some 88, none, some 89]),
  .inl (0, 192),
  .inl (0, 8),
  .inl (0, 4),
  .inl (0, 32),
  .inl (0, 32),
  .inl (0, 32),
  .inl (1, 32),
  .inl (0, 4),
  .inl (0, 64),
  .inl (0, 64),
  .inl (0, 64),
  .inl (0, 64),
  .inl (0, 64),
  .inl (0, 192),
  .inl (0, 8),
  .inl (1, 16),
  .inl (0, 16),
  .inl (0, 1000),
  .inl (0, 250),
  .inl (0, 32),
  .inl (0, 16),
  .inl (2, 1)]
theorem sm_good {w0 : Cond} {ws : List Cond} (h : ∀ w ∈ ws, w ∈ sm_AW) : GoodIn (w0 :: sm_AW) ws := fun w hw => ⟨List.mem_cons_of_mem _ (h w hw), good_of_word (sm_AWg w (h w hw))⟩
theorem sm_inC {cd : Cond} (h : cd ∈ sm_AW) : ∀ w ∈ cd :: sm_AW, w ∈ sm_AW := fun w hw => (List.mem_cons.mp hw).elim (fun e => e ▸ h) id
theorem sm_inV {own C : String} {idx : Nat} {y : MethodName} {cd : Cond} (h1 : Cond.methodLink own idx y ∈ sm_AW) (h2 : Cond.instanceMethod y ∈ sm_AW) (h3 : Cond.selects C y y ∈ sm_AW) (h4 : Cond.initialized C ∈ sm_AW) (h5 : cd ∈ sm_AW) : ∀ w ∈ wsV own idx C y (cd :: sm_AW), w ∈ sm_AW := by
  intro w hw
  unfold wsV at hw
  rcases List.mem_append.mp hw with h | h
  · simp only [List.mem_cons, List.not_mem_nil, or_false] at h
    rcases h with rfl | rfl | rfl | rfl
    · exact h1
    · exact h2
    · exact h3
    · exact h4
  · exact sm_inC h5 w h
theorem sm_inS {own : String} {idx : Nat} {y : MethodName} {cd : Cond} (h1 : Cond.methodLink own idx y ∈ sm_AW) (h2 : Cond.static y ∈ sm_AW) (h4 : Cond.initialized own ∈ sm_AW) (h5 : cd ∈ sm_AW) : ∀ w ∈ wsS own idx y (cd :: sm_AW), w ∈ sm_AW := by
  intro w hw
  unfold wsS at hw
  rcases List.mem_append.mp hw with h | h
  · simp only [List.mem_cons, List.not_mem_nil, or_false] at h
    rcases h with rfl | rfl | rfl
    · exact h1
    · exact h2
    · exact h4
  · exact sm_inC h5 w h
theorem sm_inT {own : String} {idx : Nat} {y : MethodName} {cd : Cond} (h1 : Cond.methodLink own idx y ∈ sm_AW) (h2 : Cond.static y ∈ sm_AW) (h4 : Cond.initialized y.cls ∈ sm_AW) (h5 : cd ∈ sm_AW) : ∀ w ∈ va_wsS own idx y (cd :: sm_AW), w ∈ sm_AW := by
  intro w hw
  unfold va_wsS at hw
  rcases List.mem_append.mp hw with h | h
  · simp only [List.mem_cons, List.not_mem_nil, or_false] at h
    rcases h with rfl | rfl | rfl
    · exact h1
    · exact h2
    · exact h4
  · exact sm_inC h5 w h

/-! The memory of the class, the reference and the law's array as one table of ints: cell, place. -/
abbrev sm_M : Type := Nat → Nat → Int32
abbrev sm_O : Type := Nat → Int64
/-- tables; the first address; the classes of int[], boolean[], long[], Part[]; the address of the static ORDER -/
abbrev sm_V : Type := va_G × Nat × ClassId × ClassId × ClassId × ClassId × Nat
def sm_A (v : sm_V) : Nat → Prop := fun q => v.2.1 ≤ q
def sm_a (v : sm_V) (k : Nat) : Nat := v.2.1 + k
def sm_tt (v : sm_V) : Nat := v.2.2.2.2.2.2
def sm_up (M : sm_M) (k j : Nat) (x : Int32) : sm_M := fun a => if a = k then upd (M k) j x else M a
abbrev sm_Sh : Type := (Nat × Nat) ⊕ (Nat × List (Option Nat))
def sm_sh (k : Nat) : sm_Sh := sm_tbl.getD k (.inl (0, 0))
def sm_isP (k : Nat) : Prop := ∃ j, j < 4 ∧ k = 3 + 14 * j
def sm_isS (k : Nat) : Prop := ∃ j, j < 4 ∧ (k = 4 + 14 * j ∨ k = 6 + 14 * j)
def sm_ln (k : Nat) : Nat := match sm_sh k with
  | .inl q => q.2
  | .inr _ => 0
theorem sm_4 {P : Nat → Prop} (h0 : P 0) (h1 : P 1) (h2 : P 2) (h3 : P 3) : ∀ j, j < 4 → P j := fun j hj => match j, hj with
  | 0, _ => h0
  | 1, _ => h1
  | 2, _ => h2
  | 3, _ => h3
theorem sm_p {k : Nat} (h : sm_isP k) : k < 91 ∧ sm_sh k = .inr (2, [some (k + 1), some (k + 3), some (k + 5), some (k + 6), some (k + 7), some (k + 8), none, some (k + 9), some (k + 10), some (k + 11), some (k + 12), some (k + 13), none]) := by
  obtain ⟨j, hj, rfl⟩ := h
  exact sm_4 (P := fun j => 3 + 14 * j < 91 ∧ sm_sh (3 + 14 * j) = .inr (2, [some (3 + 14 * j + 1), some (3 + 14 * j + 3), some (3 + 14 * j + 5), some (3 + 14 * j + 6), some (3 + 14 * j + 7), some (3 + 14 * j + 8), none, some (3 + 14 * j + 9), some (3 + 14 * j + 10), some (3 + 14 * j + 11), some (3 + 14 * j + 12), some (3 + 14 * j + 13), none])) ⟨by decide, rfl⟩ ⟨by decide, rfl⟩ ⟨by decide, rfl⟩ ⟨by decide, rfl⟩ j hj
theorem sm_p5 {k : Nat} (h : sm_isP k) : k + 5 < 91 ∧ sm_sh (k + 5) = .inl (0, 8) := by
  obtain ⟨j, hj, rfl⟩ := h
  exact sm_4 (P := fun j => 3 + 14 * j + 5 < 91 ∧ sm_sh (3 + 14 * j + 5) = .inl (0, 8)) ⟨by decide, rfl⟩ ⟨by decide, rfl⟩ ⟨by decide, rfl⟩ ⟨by decide, rfl⟩ j hj
theorem sm_p6 {k : Nat} (h : sm_isP k) : k + 6 < 91 ∧ sm_sh (k + 6) = .inl (0, 8) := by
  obtain ⟨j, hj, rfl⟩ := h
  exact sm_4 (P := fun j => 3 + 14 * j + 6 < 91 ∧ sm_sh (3 + 14 * j + 6) = .inl (0, 8)) ⟨by decide, rfl⟩ ⟨by decide, rfl⟩ ⟨by decide, rfl⟩ ⟨by decide, rfl⟩ j hj
theorem sm_p7 {k : Nat} (h : sm_isP k) : k + 7 < 91 ∧ sm_sh (k + 7) = .inl (0, 8) := by
  obtain ⟨j, hj, rfl⟩ := h
  exact sm_4 (P := fun j => 3 + 14 * j + 7 < 91 ∧ sm_sh (3 + 14 * j + 7) = .inl (0, 8)) ⟨by decide, rfl⟩ ⟨by decide, rfl⟩ ⟨by decide, rfl⟩ ⟨by decide, rfl⟩ j hj
theorem sm_p8 {k : Nat} (h : sm_isP k) : k + 8 < 91 ∧ sm_sh (k + 8) = .inl (1, 8) := by
  obtain ⟨j, hj, rfl⟩ := h
  exact sm_4 (P := fun j => 3 + 14 * j + 8 < 91 ∧ sm_sh (3 + 14 * j + 8) = .inl (1, 8)) ⟨by decide, rfl⟩ ⟨by decide, rfl⟩ ⟨by decide, rfl⟩ ⟨by decide, rfl⟩ j hj
theorem sm_p9 {k : Nat} (h : sm_isP k) : k + 9 < 91 ∧ sm_sh (k + 9) = .inl (0, 16) := by
  obtain ⟨j, hj, rfl⟩ := h
  exact sm_4 (P := fun j => 3 + 14 * j + 9 < 91 ∧ sm_sh (3 + 14 * j + 9) = .inl (0, 16)) ⟨by decide, rfl⟩ ⟨by decide, rfl⟩ ⟨by decide, rfl⟩ ⟨by decide, rfl⟩ j hj
theorem sm_p10 {k : Nat} (h : sm_isP k) : k + 10 < 91 ∧ sm_sh (k + 10) = .inl (0, 16) := by
  obtain ⟨j, hj, rfl⟩ := h
  exact sm_4 (P := fun j => 3 + 14 * j + 10 < 91 ∧ sm_sh (3 + 14 * j + 10) = .inl (0, 16)) ⟨by decide, rfl⟩ ⟨by decide, rfl⟩ ⟨by decide, rfl⟩ ⟨by decide, rfl⟩ j hj
theorem sm_p11 {k : Nat} (h : sm_isP k) : k + 11 < 91 ∧ sm_sh (k + 11) = .inl (0, 16) := by
  obtain ⟨j, hj, rfl⟩ := h
  exact sm_4 (P := fun j => 3 + 14 * j + 11 < 91 ∧ sm_sh (3 + 14 * j + 11) = .inl (0, 16)) ⟨by decide, rfl⟩ ⟨by decide, rfl⟩ ⟨by decide, rfl⟩ ⟨by decide, rfl⟩ j hj
theorem sm_p12 {k : Nat} (h : sm_isP k) : k + 12 < 91 ∧ sm_sh (k + 12) = .inl (0, 16) := by
  obtain ⟨j, hj, rfl⟩ := h
  exact sm_4 (P := fun j => 3 + 14 * j + 12 < 91 ∧ sm_sh (3 + 14 * j + 12) = .inl (0, 16)) ⟨by decide, rfl⟩ ⟨by decide, rfl⟩ ⟨by decide, rfl⟩ ⟨by decide, rfl⟩ j hj
theorem sm_p13 {k : Nat} (h : sm_isP k) : k + 13 < 91 ∧ sm_sh (k + 13) = .inl (0, 16) := by
  obtain ⟨j, hj, rfl⟩ := h
  exact sm_4 (P := fun j => 3 + 14 * j + 13 < 91 ∧ sm_sh (3 + 14 * j + 13) = .inl (0, 16)) ⟨by decide, rfl⟩ ⟨by decide, rfl⟩ ⟨by decide, rfl⟩ ⟨by decide, rfl⟩ j hj
theorem sm_ps1 {k : Nat} (h : sm_isP k) : sm_isS (k + 1) := by
  obtain ⟨j, hj, rfl⟩ := h
  exact ⟨j, hj, Or.inl (by omega)⟩
theorem sm_ps3 {k : Nat} (h : sm_isP k) : sm_isS (k + 3) := by
  obtain ⟨j, hj, rfl⟩ := h
  exact ⟨j, hj, Or.inr (by omega)⟩
theorem sm_s {k : Nat} (h : sm_isS k) : k < 91 ∧ sm_sh k = .inr (1, [some (k + 1), none]) := by
  obtain ⟨j, hj, rfl | rfl⟩ := h
  · exact sm_4 (P := fun j => 4 + 14 * j < 91 ∧ sm_sh (4 + 14 * j) = .inr (1, [some (4 + 14 * j + 1), none])) ⟨by decide, rfl⟩ ⟨by decide, rfl⟩ ⟨by decide, rfl⟩ ⟨by decide, rfl⟩ j hj
  · exact sm_4 (P := fun j => 6 + 14 * j < 91 ∧ sm_sh (6 + 14 * j) = .inr (1, [some (6 + 14 * j + 1), none])) ⟨by decide, rfl⟩ ⟨by decide, rfl⟩ ⟨by decide, rfl⟩ ⟨by decide, rfl⟩ j hj
theorem sm_s1 {k : Nat} (h : sm_isS k) : k + 1 < 91 ∧ sm_sh (k + 1) = .inl (0, sm_ln (k + 1)) := by
  obtain ⟨j, hj, rfl | rfl⟩ := h
  · exact sm_4 (P := fun j => 4 + 14 * j + 1 < 91 ∧ sm_sh (4 + 14 * j + 1) = .inl (0, sm_ln (4 + 14 * j + 1))) ⟨by decide, rfl⟩ ⟨by decide, rfl⟩ ⟨by decide, rfl⟩ ⟨by decide, rfl⟩ j hj
  · exact sm_4 (P := fun j => 6 + 14 * j + 1 < 91 ∧ sm_sh (6 + 14 * j + 1) = .inl (0, sm_ln (6 + 14 * j + 1))) ⟨by decide, rfl⟩ ⟨by decide, rfl⟩ ⟨by decide, rfl⟩ ⟨by decide, rfl⟩ j hj
def sm_fs (ad : Nat → Nat) (f : Nat → Int32) : List (Option Nat) → Nat → List Value
  | [], _ => []
  | none :: r, j => .int (f j) :: sm_fs ad f r (j + 1)
  | some i :: r, j => .ref (ad i) :: sm_fs ad f r (j + 1)
def sm_E (v : sm_V) (f : Nat → Int32) (o : sm_O) : sm_Sh → va_E
  | .inl (0, n) => .inl (v.2.2.1, n, .inl f)
  | .inl (1, n) => .inl (v.2.2.2.1, n, .inl f)
  | .inl (2, n) => .inl (v.2.2.2.2.1, n, .inr (.inl o))
  | .inl (_, n) => .inl (v.2.2.2.2.2.1, n, .inr (.inr (.inr (.inr (fun i => some (sm_a v (3 + 14 * i)))))))
  | .inr (ci, fl) => .inr (ci, sm_fs (sm_a v) f fl 0)
def sm_w (v : sm_V) (M : sm_M) (o : sm_O) : va_W := (List.range 91).map fun k => (sm_a v k, sm_E v (M k) o (sm_sh k))
def sm_ty (v : sm_V) : List (ClassId × FieldType) := [(v.2.2.1, .int), (v.2.2.2.1, .boolean), (v.2.2.2.2.1, .long), (v.2.2.2.2.2.1, .object "LinkMill$Part")]
theorem sm_fs_get (ad : Nat → Nat) (f : Nat → Int32) : ∀ (fl : List (Option Nat)) (j0 j : Nat), (sm_fs ad f fl j0)[j]? = (fl[j]?).map (fun x => match x with | none => Value.int (f (j0 + j)) | some i => Value.ref (ad i))
  | [], _, _ => by simp [sm_fs]
  | none :: r, j0, 0 => by simp [sm_fs]
  | some i :: r, j0, 0 => by simp [sm_fs]
  | none :: r, j0, j + 1 => by
    rw [sm_fs, List.getElem?_cons_succ, List.getElem?_cons_succ, sm_fs_get ad f r (j0 + 1) j, show j0 + 1 + j = j0 + (j + 1) by omega]
  | some i :: r, j0, j + 1 => by
    rw [sm_fs, List.getElem?_cons_succ, List.getElem?_cons_succ, sm_fs_get ad f r (j0 + 1) j, show j0 + 1 + j = j0 + (j + 1) by omega]
theorem sm_fs_len (ad : Nat → Nat) (f : Nat → Int32) : ∀ (fl : List (Option Nat)) (j0 : Nat), (sm_fs ad f fl j0).length = fl.length
  | [], _ => rfl
  | none :: r, j0 => by simp [sm_fs, sm_fs_len ad f r]
  | some i :: r, j0 => by simp [sm_fs, sm_fs_len ad f r]
theorem sm_fs_set {ad : Nat → Nat} {f : Nat → Int32} {fl : List (Option Nat)} {j : Nat} (x : Int32) (h : fl[j]? = some none) : (sm_fs ad f fl 0).set j (.int x) = sm_fs ad (upd f j x) fl 0 := by
  apply List.ext_getElem?
  intro i
  have hl : j < fl.length := (List.getElem?_eq_some_iff.mp h).1
  by_cases hi : i = j
  · subst hi
    rw [List.getElem?_set_self (by rw [sm_fs_len]; exact hl), sm_fs_get, h]
    simp [upd]
  · rw [List.getElem?_set_ne (Ne.symm hi), sm_fs_get, sm_fs_get]
    cases hq : fl[i]? with
    | none => rfl
    | some q =>
      cases q with
      | none => simp [upd, hi]
      | some a => rfl
theorem sm_w_at {v : sm_V} {M : sm_M} {o : sm_O} {k : Nat} (hk : k < 91) : (sm_w v M o)[k]? = some (sm_a v k, sm_E v (M k) o (sm_sh k)) := by
  simp [sm_w, hk]
theorem sm_w_set {v : sm_V} {M : sm_M} {o : sm_O} {k : Nat} {f : Nat → Int32} (hk : k < 91) : (sm_w v M o).set k (sm_a v k, sm_E v f o (sm_sh k)) = sm_w v (fun a => if a = k then f else M a) o := by
  apply List.ext_getElem?
  intro i
  by_cases hl : i < 91
  · by_cases hi : i = k
    · subst hi
      rw [List.getElem?_set_self (by simp [sm_w, hl]), sm_w_at hl]
      simp
    · rw [List.getElem?_set_ne (Ne.symm hi), sm_w_at hl, sm_w_at hl]
      simp [hi]
  · have e1 : ((sm_w v M o).set k (sm_a v k, sm_E v f o (sm_sh k)))[i]? = none := by
      rw [List.getElem?_eq_none]
      simp [sm_w]; omega
    have e2 : (sm_w v (fun a => if a = k then f else M a) o)[i]? = none := by
      rw [List.getElem?_eq_none]
      simp [sm_w]; omega
    rw [e1, e2]
theorem sm_w_len {v : sm_V} {M : sm_M} {o : sm_O} : (sm_w v M o).length = 91 := by simp [sm_w]
theorem sm_D {v : sm_V} {M : sm_M} {o : sm_O} : va_D (sm_A v) (sm_w v M o) := by
  have lt : ∀ (i : Nat) (p : Nat × va_E), (sm_w v M o)[i]? = some p → p.1 = sm_a v i := by
    intro i p hp
    have hl : i < 91 := by
      have := (List.getElem?_eq_some_iff.mp hp).1
      rw [sm_w_len] at this
      exact this
    rw [sm_w_at hl] at hp
    cases hp
    rfl
  refine ⟨fun i j p q hi hj hpq => ?_, fun k q hk => ?_⟩
  · have a := lt i p hi
    have b := lt j q hj
    rw [a, b] at hpq
    exact Nat.add_left_cancel hpq
  · rw [lt k q hk]
    exact Nat.le_add_right _ _
/-! the statics: ORDER, and two of Throwable -/
def sm_ord (j : Nat) : Int32 := ([0, 2, 3, 4, 1, 5, 6, 7, 8] : List Int32).getD j 0
def sm_Z (v : sm_V) (U : State) : Prop := va_Z "LinkMill$Reader" "ORDER" "[I" (.ref (sm_tt v)) (sm_A v) U U.heap ∧ va_T .int (sm_tt v) 9 (fun j => .int (sm_ord j)) (sm_A v) U U.heap ∧ va_Zq Bundle.tN "UNASSIGNED_STACK" Bundle.steD (sm_A v) U U.heap ∧ va_Zq Bundle.tN "SUPPRESSED_SENTINEL" Bundle.listD (sm_A v) U U.heap ∧ (Cond.laysStatic Bundle.tN "UNASSIGNED_STACK" Bundle.steD).before #[] U = true ∧ (Cond.laysStatic Bundle.tN "SUPPRESSED_SENTINEL" Bundle.listD).before #[] U = true
theorem sm_LS {C n d : String} {A : Nat → Prop} {s U : State} (hZ : va_Zq C n d A s s.heap) (hl : (Cond.laysStatic C n d).before #[] s = true) (hq : ∀ a : Nat, a < s.heap.size → ¬ A a → U.heap[a]? = s.heap[a]?) (hW : s.vm.Alike U.vm) : (Cond.laysStatic C n d).before #[] U = true := by
  obtain ⟨c, k, i, f, a, cell, hc, hi, hst, ha, hcell, hs, hcls, hlt, hty⟩ := Cond.laysStatic_spec hl
  have hA : ¬ A a := by
    rcases hZ with hZ | ⟨t, hZ⟩ <;>
    · obtain ⟨cf, kf, fi, f', a', cell', g1, -, -, g4, -, -, -, g8⟩ := hZ
      cases hi.symm.trans g1
      cases ha.symm.trans g4
      exact g8
  have h1 := Cond.laysStatic_setVm (args := #[]) hW hl
  obtain ⟨c2, k2, i2, f2, a2, cell2, hc2, hi2, hst2, ha2, hcell2, hs2, hcls2, hlt2, hty2⟩ := Cond.laysStatic_spec h1
  obtain ⟨k', hi', hek⟩ := State.fieldFound?_setVm hW hi
  cases hi'.symm.trans hi2
  have e : a2 = a := by rw [hek] at ha2; exact Option.some.inj (ha2.symm.trans ha)
  subst e
  have hcell3 : U.heap[a2]? = some cell2 := by rw [hq a2 (Array.getElem?_eq_some_iff.mp hcell).1 hA]; exact hcell2
  exact Cond.laysStatic_of (s := U) hc2 hi2 hst2 ha2 hcell3 hs2 hcls2 hlt2 hty2
theorem sm_Z_at {v : sm_V} {s U : State} {H : Heap} {locs : List Loc} (h : sm_Z v s) (hS : va_S (sm_A v) s.heap H locs) (hU : U.heap = H) (hW : s.WarmedH U.vm) : sm_Z v U := by
  have hq : ∀ a : Nat, a < s.heap.size → ¬ sm_A v a → U.heap[a]? = s.heap[a]? := fun a h1 h2 => by rw [hU]; exact hS.2.1 a h1 h2
  exact ⟨(h.1.kept hq).moved hW.alike, (h.2.1.kept hq).moved hW.alike, (h.2.2.1.kept hq).moved hW.alike, (h.2.2.2.1.kept hq).moved hW.alike, sm_LS h.2.2.1 h.2.2.2.2.1 hq hW.alike, sm_LS h.2.2.2.1 h.2.2.2.2.2 hq hW.alike⟩
theorem sm_Z_calling {v : sm_V} {U : State} {g : JFrame} {mk : MethodId} {a : Array Value} (h : sm_Z v U) : sm_Z v (U.calling g mk a) :=
  ⟨va_Z.moved (u := U) (U := U.calling g mk a) (Vm.Alike.refl U.vm) h.1, va_T.moved (u := U) (U := U.calling g mk a) (Vm.Alike.refl U.vm) h.2.1, va_Zq.moved (u := U) (U := U.calling g mk a) (Vm.Alike.refl U.vm) h.2.2.1, va_Zq.moved (u := U) (U := U.calling g mk a) (Vm.Alike.refl U.vm) h.2.2.2.1, sm_LS (U := U.calling g mk a) h.2.2.1 h.2.2.2.2.1 (fun _ _ _ => rfl) (Vm.Alike.refl U.vm), sm_LS (U := U.calling g mk a) h.2.2.2.1 h.2.2.2.2.2 (fun _ _ _ => rfl) (Vm.Alike.refl U.vm)⟩
/-- what the tables say, and the statics: of a state -/
def sm_K (v : sm_V) (U : State) : Prop := va_K v.1 vwCl (sm_ty v) U ∧ (∀ w ∈ sm_nw, va_Nw w U) ∧ sm_Z v U
/-- the memory, and what hasn't moved since the method's start -/
def sm_G (v : sm_V) (M : sm_M) (o : sm_O) (s : State) (H : Heap) (locs : List Loc) : Prop := va_P v.1 vwCl (sm_w v M o) H ∧ va_S (sm_A v) s.heap H locs
def sm_Pc (v : sm_V) (M : sm_M) (o : sm_O) (av : List Value) : Array Value → State → Prop := va_Pc av (fun U => va_P v.1 vwCl (sm_w v M o) U.heap ∧ sm_K v U)
def sm_Qi (v : sm_V) (M : sm_M) (o : sm_O) (r : Int32) : Array Value → State → Outcome → State → Prop := va_Qi (fun x (_ : Unit) => x = r) (fun _ t => va_P v.1 vwCl (sm_w v M o) t.heap) (sm_A v)
def sm_Ql (v : sm_V) (M : sm_M) (o : sm_O) (r : Int64) : Array Value → State → Outcome → State → Prop := va_Ql (fun x (_ : Unit) => x = r) (fun _ t => va_P v.1 vwCl (sm_w v M o) t.heap) (sm_A v)
def sm_Qv (v : sm_V) (M : sm_M) (o : sm_O) : Array Value → State → Outcome → State → Prop := va_Qv (fun (_ : Unit) => True) (fun _ t => va_P v.1 vwCl (sm_w v M o) t.heap) (sm_A v)
def sm_Qr (v : sm_V) (M : sm_M) (o : sm_O) (r : Nat) : Array Value → State → Outcome → State → Prop := va_Qr (fun (_ : Unit) => True) (fun _ a t => a = sm_a v r ∧ va_P v.1 vwCl (sm_w v M o) t.heap) (sm_A v)
def sm_Ci (l : Launch) (y : MethodName) (ws : List Cond) (rm : Room) (v : sm_V) (av : List Value) (M : sm_M) (o : sm_O) (r : Int32) (M' : sm_M) : Prop := Met l y ws rm (sm_Pc v M o av) (sm_Qi v M' o r) 0 0 (sm_A v)
def sm_Cl (l : Launch) (y : MethodName) (ws : List Cond) (rm : Room) (v : sm_V) (av : List Value) (M : sm_M) (o : sm_O) (r : Int64) (M' : sm_M) : Prop := Met l y ws rm (sm_Pc v M o av) (sm_Ql v M' o r) 0 0 (sm_A v)
def sm_Cv (l : Launch) (y : MethodName) (ws : List Cond) (rm : Room) (v : sm_V) (av : List Value) (M : sm_M) (o : sm_O) (M' : sm_M) : Prop := Met l y ws rm (sm_Pc v M o av) (sm_Qv v M' o) 0 0 (sm_A v)
def sm_Cr (l : Launch) (y : MethodName) (ws : List Cond) (rm : Room) (v : sm_V) (av : List Value) (M : sm_M) (o : sm_O) (r : Nat) (M' : sm_M) : Prop := Met l y ws rm (sm_Pc v M o av) (sm_Qr v M' o r) 0 0 (sm_A v)
/-! readers: the heap stays -/
def sm_Qi0 (r : Int32) : Array Value → State → Outcome → State → Prop := fun _ st oc t => oc = .returned (some (.int r)) ∧ t.heap = st.heap
def sm_Ql0 (r : Int64) : Array Value → State → Outcome → State → Prop := fun _ st oc t => oc = .returned (some (.long r)) ∧ t.heap = st.heap
def sm_Qr0 (v : sm_V) (r : Nat) : Array Value → State → Outcome → State → Prop := fun _ st oc t => oc = .returned (some (.ref (sm_a v r))) ∧ t.heap = st.heap
def sm_Ri (l : Launch) (y : MethodName) (ws : List Cond) (rm : Room) (v : sm_V) (av : List Value) (M : sm_M) (o : sm_O) (r : Int32) : Prop := Met l y ws rm (sm_Pc v M o av) (sm_Qi0 r) 0 0 (fun _ => False)
def sm_Rl (l : Launch) (y : MethodName) (ws : List Cond) (rm : Room) (v : sm_V) (av : List Value) (M : sm_M) (o : sm_O) (r : Int64) : Prop := Met l y ws rm (sm_Pc v M o av) (sm_Ql0 r) 0 0 (fun _ => False)
def sm_Rr (l : Launch) (y : MethodName) (ws : List Cond) (rm : Room) (v : sm_V) (av : List Value) (M : sm_M) (o : sm_O) (r : Nat) : Prop := Met l y ws rm (sm_Pc v M o av) (sm_Qr0 v r) 0 0 (fun _ => False)
/-! names, guards, calls, loops of the functions that the methods are read as -/
def sm_nm {α β : Type} (x : α) (k : α → β) : β := k x
theorem sm_of {α β : Type} {x e : α} {k : α → β} {r : β} (h : x = e) (hf : sm_nm e k = r) : k x = r := by
  subst h
  exact hf
theorem sm_t {α : Type} {c : Prop} [Decidable c] {a b r : α} (h : c) (hf : (if c then a else b) = r) : a = r := by
  rw [if_pos h] at hf
  exact hf
theorem sm_f {α : Type} {c : Prop} [Decidable c] {a b r : α} (h : ¬ c) (hf : (if c then a else b) = r) : b = r := by
  rw [if_neg h] at hf
  exact hf
def sm_gd {α : Type} (i : Int32) (n : Nat) (k : Option α) : Option α := if i < 0 ∨ n ≤ i.toNatClampNeg then none else k
theorem sm_of_gd {α : Type} {i : Int32} {n : Nat} {k : Option α} {q : α} (h : sm_gd i n k = some q) : vp_in i n ∧ k = some q := by
  unfold sm_gd at h
  by_cases hi : i < 0 ∨ n ≤ i.toNatClampNeg
  · rw [if_pos hi] at h
    cases h
  · rw [if_neg hi] at h
    exact ⟨hi, h⟩
def sm_b1 {α β : Type} (x : Option α) (k : α → Option β) : Option β := x.bind k
theorem sm_of_b1 {α β : Type} {x : Option α} {k : α → Option β} {q : β} (h : sm_b1 x k = some q) : ∃ r, x = some r ∧ k r = some q := by
  cases x with
  | none => cases h
  | some r => exact ⟨r, rfl, h⟩
def sm_b2 {α β γ : Type} (x : Option (α × β)) (k : α → β → Option γ) : Option γ := x.bind (fun p => k p.1 p.2)
theorem sm_of_b2 {α β γ : Type} {x : Option (α × β)} {k : α → β → Option γ} {q : γ} (h : sm_b2 x k = some q) : ∃ r M, x = some (r, M) ∧ k r M = some q := by
  cases x with
  | none => cases h
  | some r => exact ⟨r.1, r.2, rfl, h⟩
/-- a boolean answer -/
def sm_bo {α : Type} (r : Int32) (k : Option α) : Option α := if r = 0 ∨ r = 1 then k else none
theorem sm_of_bo {α : Type} {r : Int32} {k : Option α} {q : α} (h : sm_bo r k = some q) : (r = 0 ∨ r = 1) ∧ k = some q := by
  unfold sm_bo at h
  by_cases hi : r = 0 ∨ r = 1
  · rw [if_pos hi] at h
    exact ⟨hi, h⟩
  · rw [if_neg hi] at h
    cases h
theorem sm_nz {r : Int32} (h : r = 0 ∨ r = 1) : narrow .boolean (.int r) = .int r := by
  rcases h with rfl | rfl <;> rfl
def sm_lp1 {A R : Type} (f : (A → Option R) → A → Option R) : Nat → A → Option R
  | 0, _ => none
  | n + 1, a => f (sm_lp1 f n) a
def sm_lp2 {A B R : Type} (f : (A → B → Option R) → A → B → Option R) : Nat → A → B → Option R
  | 0, _, _ => none
  | n + 1, a, b => f (sm_lp2 f n) a b
def sm_lp3 {A B C R : Type} (f : (A → B → C → Option R) → A → B → C → Option R) : Nat → A → B → C → Option R
  | 0, _, _, _ => none
  | n + 1, a, b, c => f (sm_lp3 f n) a b c
def sm_lp4 {A B C D R : Type} (f : (A → B → C → D → Option R) → A → B → C → D → Option R) : Nat → A → B → C → D → Option R
  | 0, _, _, _, _ => none
  | n + 1, a, b, c, d => f (sm_lp4 f n) a b c d
def sm_lp5 {A B C D E R : Type} (f : (A → B → C → D → E → Option R) → A → B → C → D → E → Option R) : Nat → A → B → C → D → E → Option R
  | 0, _, _, _, _, _ => none
  | n + 1, a, b, c, d, e => f (sm_lp5 f n) a b c d e
def sm_nzd {α : Type} (y : Int32) (k : Option α) : Option α := if y = 0 then none else k
theorem sm_of_nz {α : Type} {y : Int32} {k : Option α} {q : α} (h : sm_nzd y k = some q) : ¬ y = 0 ∧ k = some q := by
  unfold sm_nzd at h
  by_cases hi : y = 0
  · rw [if_pos hi] at h
    cases h
  · rw [if_neg hi] at h
    exact ⟨hi, h⟩

theorem sm_sup_warm {a b : String} {s U : State} (hW : s.vm.Alike U.vm) (h : va_Nw (.superclass a b) s) : va_Nw (.superclass a b) U := by
  have h : (Cond.superclass a b).holds #[] s none s [] = true := h
  cases hc : s.vm.findClass a with
  | none => simp [Cond.holds, Cond.value, hc] at h
  | some c =>
    obtain ⟨q, k, kp, h1, h2, h3, h4, h5, h6, h7⟩ := Cond.superclass_spec hc h
    obtain ⟨k', hk', he⟩ := hW.2.2 _ _ h2
    obtain ⟨kp', hkp', hep⟩ := hW.2.2 _ _ h3
    have e1 : U.vm.findClass a = some c := by rw [hW.findClass]; exact hc
    have e2 : U.vm.findClass b = some q := by rw [hW.findClass]; exact h1
    have e4 : k'.super = some q := by rw [he]; exact h4
    have e5 : k'.kind = .ordinary := by rw [he]; exact h5
    have e6 : kp'.kind = .ordinary := by rw [hep]; exact h6
    have e7 : k'.isInterface = false := by rw [he]; exact h7
    show (Cond.superclass a b).holds #[] U none U [] = true
    simp [Cond.holds, Cond.value, e1, e2, hk', hkp', e4, e5, e6, e7]
theorem sm_no_warm {a b : String} {s U : State} (hW : s.vm.Alike U.vm) (h : va_Nw (.not (.castable a b)) s) : va_Nw (.not (.castable a b)) U :=
  Cond.castAtom_setVm (args := #[]) (s := s) (vm' := U.vm) hW (.not (.castable a b)) rfl h
theorem sm_nest_warm {w : Cond} (hw : sm_isN w = true) {s U : State} (hW : s.WarmedH U.vm) (h : va_Nw w s) : va_Nw w U := by
  match w, hw with
  | .fieldLinkNest .., _ => exact va_Nw.warmF hW h
  | .methodLinkNest .., _ => exact va_Nw.warmM hW h
  | .declares _, _ => exact va_Nw.warmD hW h
  | .castable _ _, _ => exact va_Nw.warmC hW h
  | .superclass _ _, _ => exact sm_sup_warm hW.alike h
  | .not (.castable _ _), _ => exact sm_no_warm hW.alike h
theorem sm_nest_same {w : Cond} (hw : sm_isN w = true) {U : State} {g : JFrame} {mk : MethodId} {a : Array Value} (h : va_Nw w U) : va_Nw w (U.calling g mk a) := by
  match w, hw with
  | .fieldLinkNest .., _ => exact va_Nw.same (u := U) rfl rfl h
  | .methodLinkNest .., _ => exact va_Nw.same (u := U) rfl rfl h
  | .declares _, _ => exact va_Nw.same (u := U) rfl rfl h
  | .castable _ _, _ => exact va_Nw.same (u := U) rfl rfl h
  | .superclass _ _, _ => exact va_Nw.same (u := U) rfl rfl h
  | .not (.castable _ _), _ => exact sm_no_warm (s := U) (Vm.Alike.refl U.vm) h
theorem sm_K_at {v : sm_V} {s U : State} {H : Heap} {locs : List Loc} (hK : sm_K v s) (hS : va_S (sm_A v) s.heap H locs) (hU : U.heap = H) (hW : s.WarmedH U.vm) : sm_K v U :=
  ⟨va_K.moved hW.alike hK.1, fun w h => sm_nest_warm (sm_nwN w h) hW (hK.2.1 w h), sm_Z_at hK.2.2 hS hU hW⟩
theorem sm_K_calling {v : sm_V} {U : State} {g : JFrame} {mk : MethodId} {a : Array Value} (hK : sm_K v U) : sm_K v (U.calling g mk a) :=
  ⟨va_K.moved (u := U) (U := U.calling g mk a) (Vm.Alike.refl U.vm) hK.1, fun w h => sm_nest_same (sm_nwN w h) (hK.2.1 w h), sm_Z_calling hK.2.2⟩
theorem sm_blind {v : sm_V} {M : sm_M} {o : sm_O} {av : List Value} : FrameBlind (sm_Pc v M o av) := fun _ _ _ _ q => ⟨q.1, q.2.1, sm_K_calling q.2.2⟩
section SMR
variable {p : Program} {l : Launch} {e : Env} {R : Room} {s : State} {m : MethodId} {args : Array Value} {below : List Frame} {meth : Method} {c : Code} {H : Heap} {locs : List Loc} {cells slots : Nat} {Q : State → Prop}
variable {cc : ByteArray} {nL pc : Nat} {ls : Array Slot} {rest : List Value} {Ts : List Cond} {own : String} {v : sm_V} {M : sm_M} {o : sm_O}
theorem sm_preV {k ci : Nat} {fl : List (Option Nat)} {C : String} {T : u_T} {N : Nat} {As : List Value} (hK : sm_K v s) (hG : sm_G v M o s H locs) (hk : k < 91) (hs : sm_sh k = .inr (ci, fl)) (hc : vwCl[ci]? = some (C, T, N)) : PreV s H C (sm_a v k) (sm_Pc v M o (.ref (sm_a v k) :: As)) As :=
  ⟨sm_blind, va_recv (q := (C, T, N)) (fs := sm_fs (sm_a v) (M k) fl 0) hK.1 hG.1 hc (by rw [sm_w_at hk, hs]; rfl), fun U hU hW => ⟨rfl, by rw [hU]; exact hG.1, sm_K_at hK hG.2 hU hW⟩⟩
theorem sm_preS {As : List Value} (hK : sm_K v s) (hG : sm_G v M o s H locs) : PreS s H (sm_Pc v M o As) As :=
  ⟨sm_blind, fun U hU hW => ⟨rfl, by rw [hU]; exact hG.1, sm_K_at hK hG.2 hU hW⟩⟩
theorem sm_geti {C : String} {T : u_T} {N ci index j k : Nat} {fl : List (Option Nat)} (hC : CallFix p m c cc nL s args Ts own) (hK : sm_K v s) (hG : sm_G v M o s H locs) (hin : ∀ w ∈ u_ws C T N, w ∈ Ts) (hk : k < 91) (hs : sm_sh k = .inr (ci, fl)) (hc : vwCl[ci]? = some (C, T, N)) (hj : j < N) (hf : fl[j]? = some none) (hlink : (Cond.fieldLink own index (T j).1 (T j).2.1 (T j).2.2.1).before args s = true) (hdg : decode cc pc = .ok (.getfield index, 3))
    (kk : W p l e R s m args below meth c H locs cells slots Q (F0 m (pc + 3) ls (.int (M k j) :: rest))) : W p l e R s m args below meth c H locs cells slots Q (F0 m pc ls (.ref (sm_a v k) :: rest)) :=
  va_get hC.1 hC.2.1 hC.2.2.2.2 hin hC.2.2.2.1 hK.1 hG.1 k (fs := sm_fs (sm_a v) (M k) fl 0) (by rw [sm_w_at hk, hs]; rfl) hc j hj hlink (fun _ h => h) (by rw [sm_fs_get, hf]; simp) hdg kk
theorem sm_getr {C : String} {T : u_T} {N ci index j k i : Nat} {fl : List (Option Nat)} (hC : CallFix p m c cc nL s args Ts own) (hK : sm_K v s) (hG : sm_G v M o s H locs) (hin : ∀ w ∈ u_ws C T N, w ∈ Ts) (hk : k < 91) (hs : sm_sh k = .inr (ci, fl)) (hc : vwCl[ci]? = some (C, T, N)) (hj : j < N) (hf : fl[j]? = some (some i)) (hlink : (Cond.fieldLink own index (T j).1 (T j).2.1 (T j).2.2.1).before args s = true) (hdg : decode cc pc = .ok (.getfield index, 3))
    (kk : W p l e R s m args below meth c H locs cells slots Q (F0 m (pc + 3) ls (.ref (sm_a v i) :: rest))) : W p l e R s m args below meth c H locs cells slots Q (F0 m pc ls (.ref (sm_a v k) :: rest)) :=
  va_get hC.1 hC.2.1 hC.2.2.2.2 hin hC.2.2.2.1 hK.1 hG.1 k (fs := sm_fs (sm_a v) (M k) fl 0) (by rw [sm_w_at hk, hs]; rfl) hc j hj hlink (fun _ h => h) (by rw [sm_fs_get, hf]; simp) hdg kk
theorem sm_getiN {C host : String} {T : u_T} {N ci index j k : Nat} {fl : List (Option Nat)} (hC : CallFix p m c cc nL s args Ts own) (hK : sm_K v s) (hG : sm_G v M o s H locs) (hin : ∀ w ∈ u_ws C T N, w ∈ Ts) (hk : k < 91) (hs : sm_sh k = .inr (ci, fl)) (hc : vwCl[ci]? = some (C, T, N)) (hj : j < N) (hf : fl[j]? = some none) (hlink : (Cond.fieldLinkNest own index (T j).1 (T j).2.1 (T j).2.2.1 host).before args s = true) (hdg : decode cc pc = .ok (.getfield index, 3))
    (kk : W p l e R s m args below meth c H locs cells slots Q (F0 m (pc + 3) ls (.int (M k j) :: rest))) : W p l e R s m args below meth c H locs cells slots Q (F0 m pc ls (.ref (sm_a v k) :: rest)) :=
  va_getN hC.1 hC.2.1 hC.2.2.2.2 hin hC.2.2.2.1 hK.1 hG.1 k (fs := sm_fs (sm_a v) (M k) fl 0) (by rw [sm_w_at hk, hs]; rfl) hc j hj hlink (fun _ h => h) (by rw [sm_fs_get, hf]; simp) hdg kk
theorem sm_getrN {C host : String} {T : u_T} {N ci index j k i : Nat} {fl : List (Option Nat)} (hC : CallFix p m c cc nL s args Ts own) (hK : sm_K v s) (hG : sm_G v M o s H locs) (hin : ∀ w ∈ u_ws C T N, w ∈ Ts) (hk : k < 91) (hs : sm_sh k = .inr (ci, fl)) (hc : vwCl[ci]? = some (C, T, N)) (hj : j < N) (hf : fl[j]? = some (some i)) (hlink : (Cond.fieldLinkNest own index (T j).1 (T j).2.1 (T j).2.2.1 host).before args s = true) (hdg : decode cc pc = .ok (.getfield index, 3))
    (kk : W p l e R s m args below meth c H locs cells slots Q (F0 m (pc + 3) ls (.ref (sm_a v i) :: rest))) : W p l e R s m args below meth c H locs cells slots Q (F0 m pc ls (.ref (sm_a v k) :: rest)) :=
  va_getN hC.1 hC.2.1 hC.2.2.2.2 hin hC.2.2.2.1 hK.1 hG.1 k (fs := sm_fs (sm_a v) (M k) fl 0) (by rw [sm_w_at hk, hs]; rfl) hc j hj hlink (fun _ h => h) (by rw [sm_fs_get, hf]; simp) hdg kk
theorem sm_w_put {k ci j : Nat} {fl : List (Option Nat)} {x : Int32} (hk : k < 91) (hs : sm_sh k = .inr (ci, fl)) (hf : fl[j]? = some none) : (sm_w v M o).set k (sm_a v k, .inr (ci, (sm_fs (sm_a v) (M k) fl 0).set j (.int x))) = sm_w v (sm_up M k j x) o := by
  rw [sm_fs_set x hf]
  have h := sm_w_set (v := v) (M := M) (o := o) (f := upd (M k) j x) hk
  rw [hs] at h
  exact h
theorem sm_puti {C : String} {T : u_T} {N ci index j k : Nat} {fl : List (Option Nat)} {x : Int32} (ty0 : Nat → FieldType) (hty : ∀ k, k < N → parseFieldDescriptor (T k).2.2.1 = some (ty0 k)) (hnm : ∀ a, a < N → ∀ b, b < N → a ≠ b → (T a).2.1 ≠ (T b).2.1) (hC : CallFix p m c cc nL s args Ts own) (hK : sm_K v s) (hG : sm_G v M o s H locs) (hin : ∀ w ∈ u_ws C T N, w ∈ Ts) (hk : k < 91) (hs : sm_sh k = .inr (ci, fl)) (hc : vwCl[ci]? = some (C, T, N)) (hj : j < N) (hf : fl[j]? = some none) (hfin : (T j).2.2.2 = false) (hd : parseFieldDescriptor (T j).2.2.1 = some .int) (hlink : (Cond.fieldLink own index (T j).1 (T j).2.1 (T j).2.2.1).before args s = true) (hdg : decode cc pc = .ok (.putfield index, 3))
    (kk : ∀ (M1 : sm_M) (H1 : Heap) (locs1 : List Loc), M1 = sm_up M k j x → sm_G v M1 o s H1 locs1 → W p l e R s m args below meth c H1 locs1 cells slots Q (F0 m (pc + 3) ls rest)) : W p l e R s m args below meth c H locs cells slots Q (F0 m pc ls (.int x :: .ref (sm_a v k) :: rest)) := by
  refine va_put hC.1 hC.2.1 hC.2.2.2.2 hin ty0 hty hnm hC.2.2.2.1 hK.1 hG.1 sm_D hG.2 k (fs := sm_fs (sm_a v) (M k) fl 0) (by rw [sm_w_at hk, hs]; rfl) hc j hj hlink (fun _ h => h) hfin hd rfl rfl (by rw [sm_fs_len]; exact (List.getElem?_eq_some_iff.mp hf).1) hdg (fun H1 locs1 hP _ hS => ?_)
  rw [sm_w_put hk hs hf] at hP
  exact kk _ H1 locs1 rfl ⟨hP, hS⟩
theorem sm_putiN {C host : String} {T : u_T} {N ci index j k : Nat} {fl : List (Option Nat)} {x : Int32} (ty0 : Nat → FieldType) (hty : ∀ k, k < N → parseFieldDescriptor (T k).2.2.1 = some (ty0 k)) (hnm : ∀ a, a < N → ∀ b, b < N → a ≠ b → (T a).2.1 ≠ (T b).2.1) (hC : CallFix p m c cc nL s args Ts own) (hK : sm_K v s) (hG : sm_G v M o s H locs) (hin : ∀ w ∈ u_ws C T N, w ∈ Ts) (hk : k < 91) (hs : sm_sh k = .inr (ci, fl)) (hc : vwCl[ci]? = some (C, T, N)) (hj : j < N) (hf : fl[j]? = some none) (hfin : (T j).2.2.2 = false) (hd : parseFieldDescriptor (T j).2.2.1 = some .int) (hlink : (Cond.fieldLinkNest own index (T j).1 (T j).2.1 (T j).2.2.1 host).before args s = true) (hdg : decode cc pc = .ok (.putfield index, 3))
    (kk : ∀ (M1 : sm_M) (H1 : Heap) (locs1 : List Loc), M1 = sm_up M k j x → sm_G v M1 o s H1 locs1 → W p l e R s m args below meth c H1 locs1 cells slots Q (F0 m (pc + 3) ls rest)) : W p l e R s m args below meth c H locs cells slots Q (F0 m pc ls (.int x :: .ref (sm_a v k) :: rest)) := by
  refine va_putN hC.1 hC.2.1 hC.2.2.2.2 hin ty0 hty hnm hC.2.2.2.1 hK.1 hG.1 sm_D hG.2 k (fs := sm_fs (sm_a v) (M k) fl 0) (by rw [sm_w_at hk, hs]; rfl) hc j hj hlink (fun _ h => h) hfin hd rfl rfl (by rw [sm_fs_len]; exact (List.getElem?_eq_some_iff.mp hf).1) hdg (fun H1 locs1 hP _ hS => ?_)
  rw [sm_w_put hk hs hf] at hP
  exact kk _ H1 locs1 rfl ⟨hP, hS⟩
theorem sm_iald {k n : Nat} {i : Int32} (hC : CallFix p m c cc nL s args Ts own) (hK : sm_K v s) (hG : sm_G v M o s H locs) (hk : k < 91) (hs : sm_sh k = .inl (0, n)) (hin : vp_in i n) (hdg : decode cc pc = .ok (.iaload, 1))
    (kk : W p l e R s m args below meth c H locs cells slots Q (F0 m (pc + 1) ls (.int (M k i.toNatClampNeg) :: rest))) : W p l e R s m args below meth c H locs cells slots Q (F0 m pc ls (.int i :: .ref (sm_a v k) :: rest)) :=
  va_iald hC.1 hC.2.1 hK.1 hG.1 k 0 (cA := v.2.2.1) (n := n) (f := M k) (by rw [sm_w_at hk, hs]; rfl) rfl hin hdg kk
theorem sm_zald {k n : Nat} {i : Int32} (hC : CallFix p m c cc nL s args Ts own) (hK : sm_K v s) (hG : sm_G v M o s H locs) (hk : k < 91) (hs : sm_sh k = .inl (1, n)) (hin : vp_in i n) (hdg : decode cc pc = .ok (.baload, 1))
    (kk : W p l e R s m args below meth c H locs cells slots Q (F0 m (pc + 1) ls (.int (M k i.toNatClampNeg) :: rest))) : W p l e R s m args below meth c H locs cells slots Q (F0 m pc ls (.int i :: .ref (sm_a v k) :: rest)) :=
  va_zald hC.1 hC.2.1 hK.1 hG.1 k 1 (cA := v.2.2.2.1) (n := n) (f := M k) (by rw [sm_w_at hk, hs]; rfl) rfl hin hdg kk
theorem sm_lald {i : Int32} (hC : CallFix p m c cc nL s args Ts own) (hK : sm_K v s) (hG : sm_G v M o s H locs) (hin : vp_in i 1) (hdg : decode cc pc = .ok (.laload, 1))
    (kk : W p l e R s m args below meth c H locs cells slots Q (F0 m (pc + 1) ls (.long (o i.toNatClampNeg) :: rest))) : W p l e R s m args below meth c H locs cells slots Q (F0 m pc ls (.int i :: .ref (sm_a v 90) :: rest)) :=
  va_lald hC.1 hC.2.1 hK.1 hG.1 90 2 (cA := v.2.2.2.2.1) (n := 1) (f := o) (by rw [sm_w_at (by decide)]; rfl) rfl hin hdg kk
theorem sm_aald {i : Int32} (hC : CallFix p m c cc nL s args Ts own) (hK : sm_K v s) (hG : sm_G v M o s H locs) (hin : vp_in i 4) (hdg : decode cc pc = .ok (.aaload, 1))
    (kk : ∀ k : Nat, k = 3 + 14 * Int32.toNatClampNeg i → sm_isP k → W p l e R s m args below meth c H locs cells slots Q (F0 m (pc + 1) ls (.ref (sm_a v k) :: rest))) : W p l e R s m args below meth c H locs cells slots Q (F0 m pc ls (.int i :: .ref (sm_a v 2) :: rest)) :=
  va_aldq hC.1 hC.2.1 hK.1 hG.1 2 3 (cA := v.2.2.2.2.2.1) (C := "LinkMill$Part") (n := 4) (f := fun i => some (sm_a v (3 + 14 * i))) (by rw [sm_w_at (by decide)]; rfl) rfl hin hdg (kk _ rfl ⟨i.toNatClampNeg, Nat.not_le.mp fun q => hin (Or.inr q), rfl⟩)
theorem sm_alen {k n : Nat} {x : Int32} (hC : CallFix p m c cc nL s args Ts own) (hK : sm_K v s) (hG : sm_G v M o s H locs) (hk : k < 91) (hs : sm_sh k = .inl (0, n)) (hn : Int32.ofNat n = x) (hdg : decode cc pc = .ok (.arraylength, 1))
    (kk : W p l e R s m args below meth c H locs cells slots Q (F0 m (pc + 1) ls (.int x :: rest))) : W p l e R s m args below meth c H locs cells slots Q (F0 m pc ls (.ref (sm_a v k) :: rest)) :=
  va_alen hC.1 hC.2.1 hK.1 hG.1 k 0 (cA := v.2.2.1) (x := (n, .inl (M k))) (by rw [sm_w_at hk, hs]; rfl) rfl hn hdg kk
theorem sm_iast {k n : Nat} {i x : Int32} (hC : CallFix p m c cc nL s args Ts own) (hK : sm_K v s) (hG : sm_G v M o s H locs) (hk : k < 91) (hs : sm_sh k = .inl (0, n)) (hin : vp_in i n) (hdg : decode cc pc = .ok (.iastore, 1))
    (kk : ∀ (M1 : sm_M) (H1 : Heap) (locs1 : List Loc), M1 = sm_up M k i.toNatClampNeg x → sm_G v M1 o s H1 locs1 → W p l e R s m args below meth c H1 locs1 cells slots Q (F0 m (pc + 1) ls rest)) : W p l e R s m args below meth c H locs cells slots Q (F0 m pc ls (.int x :: .int i :: .ref (sm_a v k) :: rest)) := by
  refine va_iast hC.1 hC.2.1 hK.1 hG.1 sm_D hG.2 k 0 (cA := v.2.2.1) (n := n) (f := M k) (by rw [sm_w_at hk, hs]; rfl) rfl hin hdg (fun H1 locs1 hP _ hS => ?_)
  have h := sm_w_set (v := v) (M := M) (o := o) (f := upd (M k) i.toNatClampNeg x) hk
  rw [hs] at h
  have hP : va_P v.1 vwCl (sm_w v (sm_up M k i.toNatClampNeg x) o) H1 := h ▸ hP
  exact kk _ H1 locs1 rfl ⟨hP, hS⟩
theorem sm_zast {k n : Nat} {i x : Int32} (hC : CallFix p m c cc nL s args Ts own) (hK : sm_K v s) (hG : sm_G v M o s H locs) (hk : k < 91) (hs : sm_sh k = .inl (1, n)) (hin : vp_in i n) (hdg : decode cc pc = .ok (.bastore, 1))
    (kk : ∀ (M1 : sm_M) (H1 : Heap) (locs1 : List Loc), M1 = sm_up M k i.toNatClampNeg (vp_nar .boolean x) → sm_G v M1 o s H1 locs1 → W p l e R s m args below meth c H1 locs1 cells slots Q (F0 m (pc + 1) ls rest)) : W p l e R s m args below meth c H locs cells slots Q (F0 m pc ls (.int x :: .int i :: .ref (sm_a v k) :: rest)) := by
  refine va_zast hC.1 hC.2.1 hK.1 hG.1 sm_D hG.2 k 1 (cA := v.2.2.2.1) (n := n) (f := M k) (by rw [sm_w_at hk, hs]; rfl) rfl hin hdg (fun H1 locs1 hP _ hS => ?_)
  have h := sm_w_set (v := v) (M := M) (o := o) (f := upd (M k) i.toNatClampNeg (vp_nar .boolean x)) hk
  rw [hs] at h
  have hP : va_P v.1 vwCl (sm_w v (sm_up M k i.toNatClampNeg (vp_nar .boolean x)) o) H1 := h ▸ hP
  exact kk _ H1 locs1 rfl ⟨hP, hS⟩
theorem sm_iret {r : Int32} (hC : CallFix p m c cc nL s args Ts own) (hr : meth.sig.returnType = some .int) (hlk : meth.locks = false) (hG : sm_G v M o s H locs) (hdg : decode cc pc = .ok (.ireturn, 1)) : W p l e R s m args below meth c H locs 0 0 (MQ below (sm_Qi v M o r) args s 0 0 (sm_A v)) (F0 m pc ls [.int r]) :=
  W.iret (v := r) hC.1 hC.2.1 hr (fun t ht hW => ⟨⟨r, (), rfl, rfl, by show va_P _ _ _ t.heap; rw [ht]; exact hG.1⟩, hG.2.F ht⟩) hG.2.2.2 hdg hlk
theorem sm_zret {r : Int32} (hC : CallFix p m c cc nL s args Ts own) (hr : meth.sig.returnType = some .boolean) (hn : narrow .boolean (.int r) = .int r) (hlk : meth.locks = false) (hG : sm_G v M o s H locs) (hdg : decode cc pc = .ok (.ireturn, 1)) : W p l e R s m args below meth c H locs 0 0 (MQ below (sm_Qi v M o r) args s 0 0 (sm_A v)) (F0 m pc ls [.int r]) :=
  W.zret (v := r) hC.1 hC.2.1 hr hn (fun t ht hW => ⟨⟨r, (), rfl, rfl, by show va_P _ _ _ t.heap; rw [ht]; exact hG.1⟩, hG.2.F ht⟩) hG.2.2.2 hdg hlk
theorem sm_lret {r : Int64} (hC : CallFix p m c cc nL s args Ts own) (hr : meth.sig.returnType = some .long) (hlk : meth.locks = false) (hG : sm_G v M o s H locs) (hdg : decode cc pc = .ok (.lreturn, 1)) : W p l e R s m args below meth c H locs 0 0 (MQ below (sm_Ql v M o r) args s 0 0 (sm_A v)) (F0 m pc ls [.long r]) :=
  W.lret (v := r) hC.1 hC.2.1 hr (fun t ht hW => ⟨⟨r, (), rfl, rfl, by show va_P _ _ _ t.heap; rw [ht]; exact hG.1⟩, hG.2.F ht⟩) hG.2.2.2 hdg hlk
theorem sm_vret (hC : CallFix p m c cc nL s args Ts own) (hr : meth.sig.returnType = none) (hlk : meth.locks = false) (hG : sm_G v M o s H locs) (hdg : decode cc pc = .ok (.return_, 1)) : W p l e R s m args below meth c H locs 0 0 (MQ below (sm_Qv v M o) args s 0 0 (sm_A v)) (F0 m pc ls []) :=
  W.vret hC.1 hC.2.1 hr (fun t ht hW => ⟨⟨(), rfl, trivial, by show va_P _ _ _ t.heap; rw [ht]; exact hG.1⟩, hG.2.F ht⟩) hG.2.2.2 hdg hlk
theorem sm_aret {r : Nat} {rt : FieldType} (hC : CallFix p m c cc nL s args Ts own) (hr : meth.sig.returnType = some rt) (hrt : (∃ n, rt = .object n) ∨ ∃ t, rt = .array t) (hlk : meth.locks = false) (hG : sm_G v M o s H locs) (hdg : decode cc pc = .ok (.areturn, 1)) : W p l e R s m args below meth c H locs 0 0 (MQ below (sm_Qr v M o r) args s 0 0 (sm_A v)) (F0 m pc ls [.ref (sm_a v r)]) :=
  W.aret (v := .ref (sm_a v r)) hC.1 hC.2.1 hr hrt (Or.inr ⟨_, rfl⟩) (fun t ht hW => ⟨⟨(), sm_a v r, rfl, trivial, rfl, by show va_P _ _ _ t.heap; rw [ht]; exact hG.1⟩, hG.2.F ht⟩) hG.2.2.2 hdg hlk
theorem sm_iret0 {r : Int32} (hC : CallFix p m c cc nL s args Ts own) (hr : meth.sig.returnType = some .int) (hlk : meth.locks = false) (hdg : decode cc pc = .ok (.ireturn, 1)) : W p l e R s m args below meth c s.heap [] 0 0 (MQ below (sm_Qi0 r) args s 0 0 (fun _ => False)) (F0 m pc ls [.int r]) :=
  W.iret (v := r) hC.1 hC.2.1 hr (fun t ht hW => ⟨rfl, ht⟩) (fun q h => by cases h) hdg hlk
theorem sm_zret0 {r : Int32} (hC : CallFix p m c cc nL s args Ts own) (hr : meth.sig.returnType = some .boolean) (hn : narrow .boolean (.int r) = .int r) (hlk : meth.locks = false) (hdg : decode cc pc = .ok (.ireturn, 1)) : W p l e R s m args below meth c s.heap [] 0 0 (MQ below (sm_Qi0 r) args s 0 0 (fun _ => False)) (F0 m pc ls [.int r]) :=
  W.zret (v := r) hC.1 hC.2.1 hr hn (fun t ht hW => ⟨rfl, ht⟩) (fun q h => by cases h) hdg hlk
theorem sm_lret0 {r : Int64} (hC : CallFix p m c cc nL s args Ts own) (hr : meth.sig.returnType = some .long) (hlk : meth.locks = false) (hdg : decode cc pc = .ok (.lreturn, 1)) : W p l e R s m args below meth c s.heap [] 0 0 (MQ below (sm_Ql0 r) args s 0 0 (fun _ => False)) (F0 m pc ls [.long r]) :=
  W.lret (v := r) hC.1 hC.2.1 hr (fun t ht hW => ⟨rfl, ht⟩) (fun q h => by cases h) hdg hlk
theorem sm_aret0 {r : Nat} {rt : FieldType} (hC : CallFix p m c cc nL s args Ts own) (hr : meth.sig.returnType = some rt) (hrt : (∃ n, rt = .object n) ∨ ∃ t, rt = .array t) (hlk : meth.locks = false) (hdg : decode cc pc = .ok (.areturn, 1)) : W p l e R s m args below meth c s.heap [] 0 0 (MQ below (sm_Qr0 v r) args s 0 0 (fun _ => False)) (F0 m pc ls [.ref (sm_a v r)]) :=
  W.aret (v := .ref (sm_a v r)) hC.1 hC.2.1 hr hrt (Or.inr ⟨_, rfl⟩) (fun t ht hW => ⟨rfl, ht⟩) (fun q h => by cases h) hdg hlk
variable {st0 : List Value} {a : Array Value} {M' : sm_M} {o' : sm_O}
theorem sm_calli0 {r : Int32} (hr : va_Run p l e R s m args below meth c H locs cells slots 0 0 (F0 m pc ls st0) rest (sm_Qi0 r a) (fun _ => False))
    (kk : W p l e R s m args below meth c H locs cells slots Q (F0 m (pc + 3) ls (.int r :: rest))) : W p l e R s m args below meth c H locs cells slots Q (F0 m pc ls st0) := by
  intro T hT X
  obtain ⟨z, st₀, t, T', L, h0, X', hL, e1, -, ⟨e2, e3⟩, st⟩ := hr T hT X
  cases e2
  have hL0 : L = [] := by
    cases L with
    | nil => rfl
    | cons q r => exact absurd (hL q List.mem_cons_self) (fun h => h)
  subst hL0
  rw [List.append_nil] at X'
  obtain ⟨t2, a1, b1⟩ := kk T' (by rw [e1, e3, h0]) X'
  exact ⟨t2, st t2 a1, b1⟩
theorem sm_calll0 {r : Int64} (hr : va_Run p l e R s m args below meth c H locs cells slots 0 0 (F0 m pc ls st0) rest (sm_Ql0 r a) (fun _ => False))
    (kk : W p l e R s m args below meth c H locs cells slots Q (F0 m (pc + 3) ls (.long r :: rest))) : W p l e R s m args below meth c H locs cells slots Q (F0 m pc ls st0) := by
  intro T hT X
  obtain ⟨z, st₀, t, T', L, h0, X', hL, e1, -, ⟨e2, e3⟩, st⟩ := hr T hT X
  cases e2
  have hL0 : L = [] := by
    cases L with
    | nil => rfl
    | cons q r => exact absurd (hL q List.mem_cons_self) (fun h => h)
  subst hL0
  rw [List.append_nil] at X'
  obtain ⟨t2, a1, b1⟩ := kk T' (by rw [e1, e3, h0]) X'
  exact ⟨t2, st t2 a1, b1⟩
theorem sm_callr0 {r : Nat} (hr : va_Run p l e R s m args below meth c H locs cells slots 0 0 (F0 m pc ls st0) rest (sm_Qr0 v r a) (fun _ => False))
    (kk : W p l e R s m args below meth c H locs cells slots Q (F0 m (pc + 3) ls (.ref (sm_a v r) :: rest))) : W p l e R s m args below meth c H locs cells slots Q (F0 m pc ls st0) := by
  intro T hT X
  obtain ⟨z, st₀, t, T', L, h0, X', hL, e1, -, ⟨e2, e3⟩, st⟩ := hr T hT X
  cases e2
  have hL0 : L = [] := by
    cases L with
    | nil => rfl
    | cons q r => exact absurd (hL q List.mem_cons_self) (fun h => h)
  subst hL0
  rw [List.append_nil] at X'
  obtain ⟨t2, a1, b1⟩ := kk T' (by rw [e1, e3, h0]) X'
  exact ⟨t2, st t2 a1, b1⟩
theorem sm_calli {r : Int32} (hr : va_Run p l e R s m args below meth c H locs cells slots 0 0 (F0 m pc ls st0) rest (sm_Qi v M' o' r a) (sm_A v)) (hG : sm_G v M o s H locs)
    (kk : ∀ (H1 : Heap) (locs1 : List Loc), sm_G v M' o' s H1 locs1 → W p l e R s m args below meth c H1 locs1 cells slots Q (F0 m (pc + 3) ls (.int r :: rest))) : W p l e R s m args below meth c H locs cells slots Q (F0 m pc ls st0) := by
  refine va_calli hr hG.2 (fun q _ h => h) (fun q h => h) (fun x u t H1 locs1 ht hvm hx hB hz hk hS => ?_)
  subst hx
  rw [ht] at hB
  exact kk H1 locs1 ⟨hB, hS⟩
theorem sm_calll {r : Int64} (hr : va_Run p l e R s m args below meth c H locs cells slots 0 0 (F0 m pc ls st0) rest (sm_Ql v M' o' r a) (sm_A v)) (hG : sm_G v M o s H locs)
    (kk : ∀ (H1 : Heap) (locs1 : List Loc), sm_G v M' o' s H1 locs1 → W p l e R s m args below meth c H1 locs1 cells slots Q (F0 m (pc + 3) ls (.long r :: rest))) : W p l e R s m args below meth c H locs cells slots Q (F0 m pc ls st0) := by
  refine va_calll hr hG.2 (fun q _ h => h) (fun q h => h) (fun x u t H1 locs1 ht hvm hx hB hz hk hS => ?_)
  subst hx
  rw [ht] at hB
  exact kk H1 locs1 ⟨hB, hS⟩
theorem sm_callv (hr : va_Run p l e R s m args below meth c H locs cells slots 0 0 (F0 m pc ls st0) rest (sm_Qv v M' o' a) (sm_A v)) (hG : sm_G v M o s H locs)
    (kk : ∀ (H1 : Heap) (locs1 : List Loc), sm_G v M' o' s H1 locs1 → W p l e R s m args below meth c H1 locs1 cells slots Q (F0 m (pc + 3) ls rest)) : W p l e R s m args below meth c H locs cells slots Q (F0 m pc ls st0) := by
  refine va_callv hr hG.2 (fun q _ h => h) (fun q h => h) (fun u t H1 locs1 ht hvm hx hB hz hk hS => ?_)
  rw [ht] at hB
  exact kk H1 locs1 ⟨hB, hS⟩
theorem sm_callr {r : Nat} (hr : va_Run p l e R s m args below meth c H locs cells slots 0 0 (F0 m pc ls st0) rest (sm_Qr v M' o' r a) (sm_A v)) (hG : sm_G v M o s H locs)
    (kk : ∀ (H1 : Heap) (locs1 : List Loc), sm_G v M' o' s H1 locs1 → W p l e R s m args below meth c H1 locs1 cells slots Q (F0 m (pc + 3) ls (.ref (sm_a v r) :: rest))) : W p l e R s m args below meth c H locs cells slots Q (F0 m pc ls st0) := by
  refine va_callr hr hG.2 (fun q _ h => h) (fun q h => h) (fun u ra t H1 locs1 ht hvm hx hB hz hk hS => ?_)
  obtain ⟨e1, hB⟩ := hB
  subst e1
  rw [ht] at hB
  exact kk H1 locs1 ⟨hB, hS⟩
end SMR
theorem sm_met {l : Launch} {v : sm_V} {M : sm_M} {o : sm_O} {y : MethodName} {ws ws' : List Cond} {rm : Room} {Qc : Array Value → State → Outcome → State → Prop} {mc ms : Nat} {free : Addr → Prop} {cc : ByteArray} {nL : Nat} {ret : Option FieldType} {av : List Value}
    (hy : plainFor y = true) (hw : ws = Cond.code y cc nL ret :: ws') (hlen : (lg_sl av).length ≤ nL)
    (body : ∀ p e s m args below meth c, CallFix p m c cc nL s args ws y.cls → meth.sig.returnType = ret → meth.locks = false → sm_K v s → sm_G v M o s s.heap [] → ∀ ls, lv_has ls nL (lv_args 0 av) →
      W p l e rm s m args below meth c s.heap [] 0 0 (MQ below Qc args s mc ms free) (F0 m 0 ls [])) : Met l y ws rm (sm_Pc v M o av) Qc mc ms free := by
  refine va_MetF (cc := cc) (maxL := nL) (ret := ret) hy hw ?_
  intro p e s m args below meth c s₁ B hml hv
  obtain ⟨rfl, hP, hK⟩ := hv
  rw [lg_entry_eq]
  exact body p e s m _ below meth c ⟨B.exec, B.bytes, hml, findClass_of_methodNamed B.named, atoms_spec (ws := ws) B.pre⟩ B.returns B.notSynchronized hK ⟨hP, va_S.rf⟩ _ (lv_entry av hlen)

section SMT
variable {p : Program} {l : Launch} {e : Env} {R : Room} {s : State} {m : MethodId} {args : Array Value} {below : List Frame} {meth : Method} {c : Code} {H : Heap} {locs : List Loc} {cells slots : Nat} {Q : State → Prop}
variable {cc : ByteArray} {nL pc : Nat} {ls : Array Slot} {rest : List Value} {Ts : List Cond} {own : String} {v : sm_V} {M : sm_M} {o : sm_O}
theorem sm_gets {index : Nat} (hC : CallFix p m c cc nL s args Ts own) (hK : sm_K v s) (hG : sm_G v M o s H locs) (hlink : (Cond.fieldLink own index "LinkMill$Reader" "ORDER" "[I").before args s = true) (hdg : decode cc pc = .ok (.getstatic index, 3))
    (kk : W p l e R s m args below meth c H locs cells slots Q (F0 m (pc + 3) ls (.ref (sm_tt v) :: rest))) : W p l e R s m args below meth c H locs cells slots Q (F0 m pc ls rest) :=
  va_gets hC.1 hC.2.1 hK.2.2.1 hG.2 hC.2.2.2.1 hlink (fun _ h => h) hdg kk
theorem sm_tld {i : Int32} (hC : CallFix p m c cc nL s args Ts own) (hK : sm_K v s) (hG : sm_G v M o s H locs) (hin : vp_in i 9) (hdg : decode cc pc = .ok (.iaload, 1))
    (kk : W p l e R s m args below meth c H locs cells slots Q (F0 m (pc + 1) ls (.int (sm_ord (Int32.toNatClampNeg i)) :: rest))) : W p l e R s m args below meth c H locs cells slots Q (F0 m pc ls (.int i :: .ref (sm_tt v) :: rest)) :=
  va_ti hC.1 hC.2.1 hK.2.2.2.1 hG.2 hin rfl hdg kk
theorem sm_tlen (hC : CallFix p m c cc nL s args Ts own) (hK : sm_K v s) (hG : sm_G v M o s H locs) (hdg : decode cc pc = .ok (.arraylength, 1))
    (kk : W p l e R s m args below meth c H locs cells slots Q (F0 m (pc + 1) ls (.int 9 :: rest))) : W p l e R s m args below meth c H locs cells slots Q (F0 m pc ls (.ref (sm_tt v) :: rest)) :=
  va_tlen hC.1 hC.2.1 hK.2.2.2.1 hG.2 (by decide) hdg kk
end SMT

/-! methods that may throw: the answer and the memory, or the number of an exception -/
def sm_exc (n : Nat) : String := match n with
  | 1 => "java/lang/IllegalArgumentException"
  | 2 => "java/lang/IllegalStateException"
  | _ => "java/lang/IndexOutOfBoundsException"
def sm_QX (v : sm_V) (M : sm_M) (o : sm_O) (q : (Int32 × sm_M) ⊕ Nat) (oc : Outcome) (t : State) : Prop := match q with
  | .inl a => oc = .returned (some (.int a.1)) ∧ va_P v.1 vwCl (sm_w v a.2 o) t.heap
  | .inr n => ∃ (x : Addr) (cell : Cell), oc = .threw x ∧ t.heap[x]? = some cell ∧ cell.vm = .none ∧ t.vm.findClass (sm_exc n) = some cell.cls ∧ va_P v.1 vwCl (sm_w v M o) t.heap
def sm_PX (v : sm_V) (M : sm_M) (o : sm_O) (q : (Int32 × sm_M) ⊕ Nat) : Array Value → State → Outcome → State → Prop := fun _ st oc t =>
  sm_QX v M o q oc t ∧ va_F (sm_A v) st t ∧ ∃ L, (st.WarmedH t.vm ∧ st.sameButNew ({ t with vm := st.vm } : State) L 1 6) ∧ ∀ z ∈ L, sm_A v z.base
def sm_X (l : Launch) (y : MethodName) (ws : List Cond) (rm : Room) (v : sm_V) (av : List Value) (M : sm_M) (o : sm_O) (q : (Int32 × sm_M) ⊕ Nat) : Prop :=
  MetFree l y (headSpec ws rm) (sm_Pc v M o av) (fun _ _ _ _ _ => True) (sm_PX v M o q)
def sm_MX (below : List Frame) (v : sm_V) (M : sm_M) (o : sm_O) (q : (Int32 × sm_M) ⊕ Nat) (a : Array Value) (s : State) : State → Prop := fun t =>
  ∃ oc, t.status = .running ∧ Ended t below oc ∧ sm_PX v M o q a s oc t
theorem sm_metX {l : Launch} {v : sm_V} {M : sm_M} {o : sm_O} {y : MethodName} {ws ws' : List Cond} {rm : Room} {q : (Int32 × sm_M) ⊕ Nat} {cc : ByteArray} {nL : Nat} {ret : Option FieldType} {av : List Value}
    (hy : plainName y.cls = true) (hw : ws = Cond.code y cc nL ret :: ws') (hlen : (lg_sl av).length ≤ nL)
    (body : ∀ p e s m args below meth c, CallFix p m c cc nL s args ws y.cls → meth.sig.returnType = ret → meth.locks = false → (∀ (pc : Nat) x, x ∈ c.exceptionTable.toList → covers x pc = false) → sm_K v s → sm_G v M o s s.heap [] → ∀ ls, lv_has ls nL (lv_args 0 av) →
      W p l e rm s m args below meth c s.heap [] 0 0 (sm_MX below v M o q args s) (F0 m 0 ls [])) : sm_X l y ws rm v av M o q := by
  refine MetFree.of_bodyS (code := cc) (maxLocals := nL) (ret := ret) hy ?_ ?_
  · intro args s m h hn
    obtain ⟨meth, c, h1, h2, h3, h4, h5, h6, -, -⟩ := Cond.code_spec hn (atoms_spec (ws := ws) h _ (by rw [hw]; exact List.mem_cons_self))
    exact ⟨meth, c, h1, h2, h3, h4, h5, h6⟩
  · intro p e s m args below meth c s₁ B hml hP _
    have hh0 : s₁.heap = s.heap := by rw [B.state]; rfl
    obtain ⟨rfl, hP, hK⟩ := hP
    obtain ⟨meth', c', h1, h2, -, -, -, -, hemp, -⟩ := Cond.code_spec B.named (atoms_spec (ws := ws) B.pre _ (by rw [hw]; exact List.mem_cons_self))
    have hne : ∀ (pc : Nat) x, x ∈ c.exceptionTable.toList → covers x pc = false := by
      intro pc x hx
      have X := Stand.of_body B
      have e1 : meth' = meth := Option.some.inj (h1.symm.trans B.method)
      subst e1
      have e2 : c' = c := Option.some.inj (h2.symm.trans X.code)
      subst e2
      have h0 : c'.exceptionTable.size = 0 := by simpa [Array.isEmpty] using hemp
      have h9 : c'.exceptionTable.toList = [] := List.eq_nil_of_length_eq_zero (by simpa using h0)
      rw [h9] at hx
      cases hx
    have hw9 := body p e s m _ below meth c ⟨B.exec, B.bytes, hml, findClass_of_methodNamed B.named, atoms_spec (ws := ws) B.pre⟩ B.returns B.notSynchronized hne hK ⟨hP, va_S.rf⟩ _ (lv_entry av hlen)
    rw [← lg_entry_eq] at hw9
    obtain ⟨t, a1, oc, b1, b2, b3⟩ := hw9 s₁ hh0 (Stand.of_body B)
    exact ⟨t, oc, a1, b1, b2, b3⟩
section SMX
variable {p : Program} {l : Launch} {e : Env} {R : Room} {s : State} {m : MethodId} {args : Array Value} {below : List Frame} {meth : Method} {c : Code} {H : Heap} {locs : List Loc} {cells slots : Nat} {Q : State → Prop}
variable {cc : ByteArray} {nL pc : Nat} {ls : Array Slot} {rest : List Value} {Ts : List Cond} {own : String} {v : sm_V} {M M0 : sm_M} {o : sm_O}
theorem sm_iretX {r : Int32} (hC : CallFix p m c cc nL s args Ts own) (hr : meth.sig.returnType = some .int) (hlk : meth.locks = false) (hG : sm_G v M o s H locs) (hdg : decode cc pc = .ok (.ireturn, 1)) : W p l e R s m args below meth c H locs 0 0 (sm_MX below v M0 o (.inl (r, M)) args s) (F0 m pc ls [.int r]) := by
  intro T hT X
  obtain ⟨t, h1, oc, h2, h3, h4, L, ⟨-, h5, h6⟩, h7⟩ := sm_iret (v := v) (M := M) (o := o) (r := r) hC hr hlk hG hdg T hT X
  obtain ⟨⟨x, u, e1, e2, e3⟩, e4⟩ := h4
  exact ⟨t, h1, oc, h2, h3, ⟨by rw [e1, e2], e3⟩, e4, L, ⟨h5, h6.mono (by omega) (by omega)⟩, h7⟩
theorem sm_zretX {r : Int32} (hC : CallFix p m c cc nL s args Ts own) (hr : meth.sig.returnType = some .boolean) (hn : narrow .boolean (.int r) = .int r) (hlk : meth.locks = false) (hG : sm_G v M o s H locs) (hdg : decode cc pc = .ok (.ireturn, 1)) : W p l e R s m args below meth c H locs 0 0 (sm_MX below v M0 o (.inl (r, M)) args s) (F0 m pc ls [.int r]) := by
  intro T hT X
  obtain ⟨t, h1, oc, h2, h3, h4, L, ⟨-, h5, h6⟩, h7⟩ := sm_zret (v := v) (M := M) (o := o) (r := r) hC hr hn hlk hG hdg T hT X
  obtain ⟨⟨x, u, e1, e2, e3⟩, e4⟩ := h4
  exact ⟨t, h1, oc, h2, h3, ⟨by rw [e1, e2], e3⟩, e4, L, ⟨h5, h6.mono (by omega) (by omega)⟩, h7⟩
theorem sm_same {U : State} {k n : Nat} (h : s.sameButNew ({ U with vm := s.vm } : State) [] k n) : s.heap.size ≤ U.heap.size ∧ ∀ q : Nat, q < s.heap.size → U.heap[q]? = s.heap[q]? := by
  obtain ⟨-, h2, -, -, -, h6⟩ := h
  refine ⟨h2, fun q hq => ?_⟩
  obtain ⟨c', e1, e2, e3, e4⟩ := h6 q s.heap[q] (Array.getElem?_eq_getElem hq)
  have e1 : U.heap[q]? = some c' := e1
  rw [e1, Array.getElem?_eq_getElem hq, e2]
  congr 1
  have e5 : c'.slots = (s.heap[q]).slots := Array.ext_getElem? (fun i => e4 i (by simp))
  rw [e5]
theorem sm_throw {ia ic n : Nat} (hfl : l.flags = pinnedFlags ++ [noTraceFlag]) (hC : CallFix p m c cc nL s args Ts own) (hlk : meth.locks = false) (hne : ∀ (pc : Nat) x, x ∈ c.exceptionTable.toList → covers x pc = false) (hG : sm_G v M o s s.heap []) (hsz : ls.size = nL) (hfit : Bundle.fit (sm_exc n) = true)
    (hcl : (Cond.classLink own ia (sm_exc n)).before args s = true) (hini : (Cond.initialized (sm_exc n)).before args s = true)
    (hat : ∀ a ∈ Bundle.ownAtoms0 own ic (sm_exc n) ["java/lang/RuntimeException", "java/lang/Exception"], a.before args s = true)
    (hR : 1 ≤ R.cells ∧ 6 ≤ R.slots ∧ 6 ≤ R.frames ∧ 90 ≤ R.locals)
    (d0 : decode cc pc = .ok (.new ia, 3)) (d3 : decode cc (pc + 3) = .ok (.dup, 1)) (d4 : decode cc (pc + 3 + 1) = .ok (.invokespecial ic, 3)) (d7 : decode cc (pc + 3 + 1 + 3) = .ok (.athrow, 1)) :
    W p l e R s m args below meth c s.heap [] 0 0 (sm_MX below v M o (.inr n) args s) (F0 m pc ls []) := by
  obtain ⟨hx, hb, hml, hown, hts⟩ := hC
  refine W.newc hx hb hown hcl (hat (.instantiable (sm_exc n) 6) (by simp [Bundle.ownAtoms0])) hini rfl d0 (by omega) (by omega) (fun cC kC h1 h2 h3 h4 => ?_)
  refine W.eq (g2 := F0 m (pc + 3) ls [.ref s.heap.size]) rfl ?_
  refine lv_dup hx hb d3 rfl ?_
  intro T hT X
  have htr : e.platform.stackTraces = false := Launch.traces_off hfl X.admits
  obtain ⟨U, hsteps, hrun, hend, hW, hsame, ce, hce, K⟩ := X.ctorThrow0 hx htr (own := own) (cls := sm_exc n) (names := ["java/lang/RuntimeException", "java/lang/Exception"]) (ic := ic) hown hfit (by decide) hat (fun x hx => by cases hx) h1 h2
    (a := s.heap.size) (by rw [hT]; simp) (Nat.le_refl _) (g := F0 m (pc + 3 + 1) ls [.ref s.heap.size, .ref s.heap.size]) rfl (hsz.trans hml.symm) rfl rfl (rest := []) rfl (by rw [hb]; exact d4) (by rw [hb]; exact d7) (hne _) (by show 2 + 3 < R.frames; omega) (by show 2 * 0 + 1 + (13 * (2 + 1) + 41) ≤ R.locals; omega) hlk
  obtain ⟨q1, q2⟩ := sm_same hsame
  refine ⟨U, hsteps, .threw s.heap.size, hrun, hend, ⟨s.heap.size, ce, rfl, hce, K.vm, by rw [hW.alike.findClass]; exact K.cls, hG.1.kept (fun k z hz => q2 z.1 (hG.1 k z hz).lt)⟩, ⟨q1, fun q hq _ => q2 q hq⟩, [], ⟨hW, hsame⟩, fun z hz => by cases hz⟩
end SMX
theorem sm_isref {C n d : String} {A : Nat → Prop} {s : State} {args : Array Value} (h : va_Zq C n d A s s.heap) : (Cond.isRef (.static C n d)).before args s = true := by
  have key : ∀ w : Value, va_Z C n d w A s s.heap → (Term.static C n d).eval args s none [] s = some w := by
    intro w hw
    obtain ⟨cf, kf, fi, f, a, cell, h1, h2, h3, h4, h5, h6, h7, -⟩ := hw
    simp [Term.eval, State.fieldNamed?, h1, h2, h4, h5, h6, h7]
  rcases h with h | ⟨t, h⟩
  · simp [Cond.before, Cond.holds, Cond.value, key _ h]
  · simp [Cond.before, Cond.holds, Cond.value, key _ h]
def sm_aok (a : Cond) : Bool := decide (a ∈ sm_AW) || decide (a ∈ sm_nw) || decide (a = .isRef (.static Bundle.tN "UNASSIGNED_STACK" Bundle.steD)) || decide (a = .isRef (.static Bundle.tN "SUPPRESSED_SENTINEL" Bundle.listD)) || decide (a = .laysStatic Bundle.tN "UNASSIGNED_STACK" Bundle.steD) || decide (a = .laysStatic Bundle.tN "SUPPRESSED_SENTINEL" Bundle.listD)
theorem sm_atoms {p : Program} {s : State} {m : MethodId} {args : Array Value} {c : Code} {cc : ByteArray} {nL ic : Nat} {w0 : Cond} {v : sm_V} {own own' X : String} {names : List String} (hC : CallFix p m c cc nL s args (w0 :: sm_AW) own) (hK : sm_K v s)
    (h : (Bundle.ownAtoms0 own' ic X names).all sm_aok = true) : ∀ a ∈ Bundle.ownAtoms0 own' ic X names, a.before args s = true := by
  intro a ha
  have h1 := List.all_eq_true.mp h a ha
  simp only [sm_aok, Bool.or_eq_true, decide_eq_true_eq] at h1
  rcases h1 with ((((h1 | h1) | h1) | h1) | h1) | h1
  · exact hC.2.2.2.2 _ (List.mem_cons_of_mem _ h1)
  · have h2 := hK.2.1 a h1
    have h3 := sm_nwN a h1
    match a, h3 with
    | .fieldLinkNest .., _ => exact va_Nw.use rfl h2
    | .methodLinkNest .., _ => exact va_Nw.use rfl h2
    | .declares _, _ => exact va_Nw.use rfl h2
    | .castable _ _, _ => exact va_Nw.use rfl h2
    | .superclass _ _, _ => exact va_Nw.use rfl h2
    | .not (.castable _ _), _ => exact h2
  · subst h1
    exact sm_isref hK.2.2.2.2.1
  · subst h1
    exact sm_isref hK.2.2.2.2.2.1
  · subst h1
    exact hK.2.2.2.2.2.2.1
  · subst h1
    exact hK.2.2.2.2.2.2.2

