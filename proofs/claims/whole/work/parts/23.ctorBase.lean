/-! the making: the first n cells; Z: which references are set -/
abbrev sm_ZT : Type := Nat → Nat → Bool
def sm_zs (Z : sm_ZT) (k j : Nat) : sm_ZT := fun a b => (a == k && b == j) || Z a b
def sm_fp (ad : Nat → Nat) (z : Nat → Bool) (f : Nat → Int32) : List (Option Nat) → Nat → List Value
  | [], _ => []
  | none :: r, j => .int (f j) :: sm_fp ad z f r (j + 1)
  | some i :: r, j => (if z j = true then .ref (ad i) else .null) :: sm_fp ad z f r (j + 1)
def sm_EP (v : sm_V) (z : Nat → Bool) (f : Nat → Int32) : sm_Sh → va_E
  | .inl (0, n) => .inl (v.2.2.1, n, .inl f)
  | .inl (1, n) => .inl (v.2.2.2.1, n, .inl f)
  | .inl (2, n) => .inl (v.2.2.2.2.1, n, .inr (.inl (fun _ => 0)))
  | .inl (_, n) => .inl (v.2.2.2.2.2.1, n, .inr (.inr (.inr (.inr (fun i => if z i = true then some (sm_a v (3 + 14 * i)) else none)))))
  | .inr (ci, fl) => .inr (ci, sm_fp (sm_a v) z f fl 0)
def sm_wp (v : sm_V) (n : Nat) (Z : sm_ZT) (M : sm_M) : va_W := (List.range n).map fun k => (sm_a v k, sm_EP v (Z k) (M k) (sm_sh k))
theorem sm_fp_get (ad : Nat → Nat) (z : Nat → Bool) (f : Nat → Int32) : ∀ (fl : List (Option Nat)) (j0 j : Nat), (sm_fp ad z f fl j0)[j]? = (fl[j]?).map (fun x => match x with | none => Value.int (f (j0 + j)) | some i => if z (j0 + j) = true then Value.ref (ad i) else Value.null)
  | [], _, _ => by simp [sm_fp]
  | none :: r, j0, 0 => by simp [sm_fp]
  | some i :: r, j0, 0 => by simp [sm_fp]
  | none :: r, j0, j + 1 => by
    rw [sm_fp, List.getElem?_cons_succ, List.getElem?_cons_succ, sm_fp_get ad z f r (j0 + 1) j, show j0 + 1 + j = j0 + (j + 1) by omega]
  | some i :: r, j0, j + 1 => by
    rw [sm_fp, List.getElem?_cons_succ, List.getElem?_cons_succ, sm_fp_get ad z f r (j0 + 1) j, show j0 + 1 + j = j0 + (j + 1) by omega]
theorem sm_fp_len (ad : Nat → Nat) (z : Nat → Bool) (f : Nat → Int32) : ∀ (fl : List (Option Nat)) (j0 : Nat), (sm_fp ad z f fl j0).length = fl.length
  | [], _ => rfl
  | none :: r, j0 => by simp [sm_fp, sm_fp_len ad z f r]
  | some i :: r, j0 => by simp [sm_fp, sm_fp_len ad z f r]
theorem sm_fp_set {ad : Nat → Nat} {z : Nat → Bool} {f : Nat → Int32} {fl : List (Option Nat)} {j i : Nat} (h : fl[j]? = some (some i)) : (sm_fp ad z f fl 0).set j (.ref (ad i)) = sm_fp ad (fun b => b == j || z b) f fl 0 := by
  apply List.ext_getElem?
  intro q
  have hl : j < fl.length := (List.getElem?_eq_some_iff.mp h).1
  by_cases hi : q = j
  · subst hi
    rw [List.getElem?_set_self (by rw [sm_fp_len]; exact hl), sm_fp_get, h]
    simp
  · rw [List.getElem?_set_ne (Ne.symm hi), sm_fp_get, sm_fp_get]
    cases hq : fl[q]? with
    | none => rfl
    | some x =>
      cases x with
      | none => rfl
      | some a => simp [hi]
theorem sm_wp_len {v : sm_V} {n : Nat} {Z : sm_ZT} {M : sm_M} : (sm_wp v n Z M).length = n := by simp [sm_wp]
theorem sm_wp_at {v : sm_V} {n : Nat} {Z : sm_ZT} {M : sm_M} {k : Nat} (hk : k < n) : (sm_wp v n Z M)[k]? = some (sm_a v k, sm_EP v (Z k) (M k) (sm_sh k)) := by
  simp [sm_wp, hk]
theorem sm_wp_set {v : sm_V} {n : Nat} {Z Z' : sm_ZT} {M M' : sm_M} {k : Nat} (hk : k < n) (hZ : ∀ a, a ≠ k → Z' a = Z a) (hM : ∀ a, a ≠ k → M' a = M a) : (sm_wp v n Z M).set k (sm_a v k, sm_EP v (Z' k) (M' k) (sm_sh k)) = sm_wp v n Z' M' := by
  apply List.ext_getElem?
  intro i
  by_cases hl : i < n
  · by_cases hi : i = k
    · subst hi
      rw [List.getElem?_set_self (by rw [sm_wp_len]; exact hl), sm_wp_at hl]
    · rw [List.getElem?_set_ne (Ne.symm hi), sm_wp_at hl, sm_wp_at hl, hZ i hi, hM i hi]
  · have e1 : ((sm_wp v n Z M).set k (sm_a v k, sm_EP v (Z' k) (M' k) (sm_sh k)))[i]? = none := by
      rw [List.getElem?_eq_none]
      rw [List.length_set, sm_wp_len]; omega
    have e2 : (sm_wp v n Z' M')[i]? = none := by
      rw [List.getElem?_eq_none]
      rw [sm_wp_len]; omega
    rw [e1, e2]
theorem sm_wp_succ {v : sm_V} {n : Nat} {Z : sm_ZT} {M : sm_M} : sm_wp v (n + 1) Z M = sm_wp v n Z M ++ [(sm_a v n, sm_EP v (Z n) (M n) (sm_sh n))] := by
  simp [sm_wp, List.range_succ]
theorem sm_DP {v : sm_V} {n : Nat} {Z : sm_ZT} {M : sm_M} : va_D (sm_A v) (sm_wp v n Z M) := by
  have lt : ∀ (i : Nat) (p : Nat × va_E), (sm_wp v n Z M)[i]? = some p → p.1 = sm_a v i := by
    intro i p hp
    have hl : i < n := by
      have := (List.getElem?_eq_some_iff.mp hp).1
      rw [sm_wp_len] at this
      exact this
    rw [sm_wp_at hl] at hp
    cases hp
    rfl
  refine ⟨fun i j p q hi hj hpq => ?_, fun k q hk => ?_⟩
  · have a := lt i p hi
    have b := lt j q hj
    rw [a, b] at hpq
    exact Nat.add_left_cancel hpq
  · rw [lt k q hk]
    exact Nat.le_add_right _ _
/-- fresh: nothing is set from n on -/
def sm_fr (n : Nat) (Z : sm_ZT) (M : sm_M) : Prop := (∀ a b, n ≤ a → Z a b = false) ∧ ∀ a b, n ≤ a → M a b = 0
def sm_GP (v : sm_V) (n : Nat) (Z : sm_ZT) (M : sm_M) (s : State) (H : Heap) (locs : List Loc) : Prop := H.size = v.2.1 + n ∧ va_P v.1 vwCl (sm_wp v n Z M) H ∧ va_S (sm_A v) s.heap H locs ∧ sm_fr n Z M
def sm_PcP (v : sm_V) (n : Nat) (Z : sm_ZT) (M : sm_M) (av : List Value) : Array Value → State → Prop := va_Pc av (fun U => (U.heap.size = v.2.1 + n ∧ va_P v.1 vwCl (sm_wp v n Z M) U.heap ∧ sm_fr n Z M) ∧ sm_K v U ∧ va_AO "LinkMill$Part" U)
def sm_QvP (v : sm_V) (n : Nat) (Z : sm_ZT) (M : sm_M) : Array Value → State → Outcome → State → Prop := va_Qv (fun (_ : Unit) => True) (fun _ t => t.heap.size = v.2.1 + n ∧ va_P v.1 vwCl (sm_wp v n Z M) t.heap ∧ sm_fr n Z M) (sm_A v)
def sm_Kc (l : Launch) (y : MethodName) (ws : List Cond) (rm : Room) (v : sm_V) (av : List Value) (n : Nat) (Z : sm_ZT) (M : sm_M) (n' : Nat) (Z' : sm_ZT) (M' : sm_M) (mc ms : Nat) : Prop := Met l y ws rm (sm_PcP v n Z M av) (sm_QvP v n' Z' M') mc ms (sm_A v)
theorem sm_fr.z {n k j : Nat} {Z : sm_ZT} {M : sm_M} (h : sm_fr n Z M) (hk : k < n) : sm_fr n (sm_zs Z k j) M := by
  refine ⟨fun a b ha => ?_, h.2⟩
  have hne : (a == k) = false := by rw [beq_eq_false_iff_ne]; omega
  simp [sm_zs, hne, h.1 a b ha]
theorem sm_fr.s {n : Nat} {Z : sm_ZT} {M : sm_M} (h : sm_fr n Z M) : sm_fr (n + 1) Z M := ⟨fun a b ha => h.1 a b (by omega), fun a b ha => h.2 a b (by omega)⟩
theorem sm_fr.m {n k j : Nat} {x : Int32} {Z : sm_ZT} {M : sm_M} (h : sm_fr n Z M) (hk : k < n) : sm_fr n Z (sm_up M k j x) := by
  refine ⟨h.1, fun a b ha => ?_⟩
  have hne : ¬ a = k := by omega
  simp [sm_up, hne, h.2 a b ha]
theorem sm_zs_ne {Z : sm_ZT} {k j a : Nat} (h : a ≠ k) : sm_zs Z k j a = Z a := by
  funext b
  have hne : (a == k) = false := by rw [beq_eq_false_iff_ne]; exact h
  simp [sm_zs, hne]
theorem sm_zs_self {Z : sm_ZT} {k j : Nat} : sm_zs Z k j k = fun b => b == j || Z k b := by
  funext b
  simp [sm_zs]
section SMP
variable {p : Program} {l : Launch} {e : Env} {R : Room} {s : State} {m : MethodId} {args : Array Value} {below : List Frame} {meth : Method} {c : Code} {H : Heap} {locs : List Loc} {cells slots : Nat} {Q : State → Prop}
variable {cc : ByteArray} {nL pc : Nat} {ls : Array Slot} {rest : List Value} {Ts : List Cond} {own : String} {v : sm_V} {Z : sm_ZT} {M : sm_M} {n : Nat}
theorem sm_grow {H1 : Heap} (hG : sm_GP v n Z M s H locs) (hz : H1.size = v.2.1 + n + 1) (ho : ∀ q : Nat, q < v.2.1 + n → H1[q]? = H[q]?) (hnew : va_at v.1 vwCl (sm_a v n, sm_EP v (Z n) (M n) (sm_sh n)) H1) : sm_GP v (n + 1) Z M s H1 locs := by
  obtain ⟨h1, h2, h3, h4⟩ := hG
  refine ⟨hz, ?_, ⟨Nat.le_trans h3.1 (by omega), fun q a b => (ho q (by rw [← h1]; exact Nat.lt_of_lt_of_le a h3.1)).trans (h3.2.1 q a b), h3.2.2⟩, h4.s⟩
  rw [sm_wp_succ]
  refine (h2.kept (fun k x hx => ho x.1 (by rw [← h1]; exact (h2 k x hx).lt))).app (fun k x hx => ?_)
  have hk : k < 1 := (List.getElem?_eq_some_iff.mp hx).1
  rw [show k = 0 by omega] at hx
  cases hx
  exact hnew
theorem sm_cnew {C : String} {T : u_T} {N ci index : Nat} {fl : List (Option Nat)} (ty : Nat → FieldType) (hty : ∀ k, k < N → parseFieldDescriptor (T k).2.2.1 = some (ty k)) (hC : CallFix p m c cc nL s args Ts own) (hK : sm_K v s) (hG : sm_GP v n Z M s H locs) (hin : ∀ w ∈ u_ws C T N, w ∈ Ts) (hs : sm_sh n = .inr (ci, fl)) (hc : vwCl[ci]? = some (C, T, N)) (hdf : ∀ j, j < N → defaultValue (ty j) = vp_V (sm_fp (sm_a v) (fun _ => false) (fun _ => 0) fl 0) j)
    (hcl : (Cond.classLink own index C).before args s = true) (hinst : (Cond.instantiable C N).before args s = true) (hini : (Cond.initialized C).before args s = true) (hcells : cells + 1 ≤ R.cells) (hslots : slots + N ≤ R.slots) (hdg : decode cc pc = .ok (.new index, 3))
    (kk : ∀ H1 : Heap, sm_GP v (n + 1) Z M s H1 locs → W p l e R s m args below meth c H1 locs (cells + 1) (slots + N) Q (F0 m (pc + 3) ls (.ref (sm_a v n) :: rest))) : W p l e R s m args below meth c H locs cells slots Q (F0 m pc ls rest) := by
  obtain ⟨hx, hb, hml, hown, hts⟩ := hC
  have hKn := hK.1.1 ci _ hc
  refine W.newcK hx hb hown hcl hinst hini rfl hdg hcells hslots hKn.2.1 hG.1 fun H1 kC hkC e1 z1 o1 => ?_
  refine kk H1 (sm_grow hG z1 o1 ?_)
  have hZ : Z n = fun _ => false := funext fun b => hG.2.2.2.1 n b (Nat.le_refl _)
  have hM : M n = fun _ => 0 := funext fun b => hG.2.2.2.2 n b (Nat.le_refl _)
  rw [hZ, hM, hs]
  exact ⟨_, hc, (u_born ty hts hin hKn hkC e1 hty).to hdf⟩
theorem sm_cnewI {N : Nat} {a0 : Int32} (hC : CallFix p m c cc nL s args Ts own) (hK : sm_K v s) (hG : sm_GP v n Z M s H locs) (hs : sm_sh n = .inl (0, N)) (harr : (Cond.arrayClass .int).before args s = true) (hn : ¬ a0 < 0) (hN : a0.toNatClampNeg = N) (hby : N * 4 ≤ 536870912) (hcells : cells + 1 ≤ R.cells) (hslots : slots + N ≤ R.slots) (hdg : decode cc pc = .ok (.newarray .int, 2))
    (kk : ∀ H1 : Heap, sm_GP v (n + 1) Z M s H1 locs → W p l e R s m args below meth c H1 locs (cells + 1) (slots + N) Q (F0 m (pc + 2) ls (.ref (sm_a v n) :: rest))) : W p l e R s m args below meth c H locs cells slots Q (F0 m pc ls (.int a0 :: rest)) := by
  refine va_newaK hC.1 hC.2.1 (atype := .int) harr rfl hdg rfl hn hN hby hcells hslots hG.1 fun H1 cA e1 z1 o1 hAr hNm => ?_
  refine kk H1 (sm_grow hG z1 o1 ?_)
  have hM : M n = fun _ => 0 := funext fun b => hG.2.2.2.2 n b (Nat.le_refl _)
  have hcA : cA = v.2.2.1 := Option.some.inj (hNm.symm.trans (hK.1.2 0 _ rfl).2)
  rw [hM, hs]
  subst hcA
  exact e1
theorem sm_cnewZ {N : Nat} {a0 : Int32} (hC : CallFix p m c cc nL s args Ts own) (hK : sm_K v s) (hG : sm_GP v n Z M s H locs) (hs : sm_sh n = .inl (1, N)) (harr : (Cond.arrayClass .boolean).before args s = true) (hn : ¬ a0 < 0) (hN : a0.toNatClampNeg = N) (hby : N * 1 ≤ 536870912) (hcells : cells + 1 ≤ R.cells) (hslots : slots + N ≤ R.slots) (hdg : decode cc pc = .ok (.newarray .boolean, 2))
    (kk : ∀ H1 : Heap, sm_GP v (n + 1) Z M s H1 locs → W p l e R s m args below meth c H1 locs (cells + 1) (slots + N) Q (F0 m (pc + 2) ls (.ref (sm_a v n) :: rest))) : W p l e R s m args below meth c H locs cells slots Q (F0 m pc ls (.int a0 :: rest)) := by
  refine va_newaK hC.1 hC.2.1 (atype := .boolean) harr rfl hdg rfl hn hN hby hcells hslots hG.1 fun H1 cA e1 z1 o1 hAr hNm => ?_
  refine kk H1 (sm_grow hG z1 o1 ?_)
  have hM : M n = fun _ => 0 := funext fun b => hG.2.2.2.2 n b (Nat.le_refl _)
  have hcA : cA = v.2.2.2.1 := Option.some.inj (hNm.symm.trans (hK.1.2 1 _ rfl).2)
  rw [hM, hs]
  subst hcA
  exact e1
theorem sm_cnewJ {N : Nat} {a0 : Int32} (hC : CallFix p m c cc nL s args Ts own) (hK : sm_K v s) (hG : sm_GP v n Z M s H locs) (hs : sm_sh n = .inl (2, N)) (harr : (Cond.arrayClass .long).before args s = true) (hn : ¬ a0 < 0) (hN : a0.toNatClampNeg = N) (hby : N * 8 ≤ 536870912) (hcells : cells + 1 ≤ R.cells) (hslots : slots + N ≤ R.slots) (hdg : decode cc pc = .ok (.newarray .long, 2))
    (kk : ∀ H1 : Heap, sm_GP v (n + 1) Z M s H1 locs → W p l e R s m args below meth c H1 locs (cells + 1) (slots + N) Q (F0 m (pc + 2) ls (.ref (sm_a v n) :: rest))) : W p l e R s m args below meth c H locs cells slots Q (F0 m pc ls (.int a0 :: rest)) := by
  refine va_newaK hC.1 hC.2.1 (atype := .long) harr rfl hdg rfl hn hN hby hcells hslots hG.1 fun H1 cA e1 z1 o1 hAr hNm => ?_
  refine kk H1 (sm_grow hG z1 o1 ?_)
  have hcA : cA = v.2.2.2.2.1 := Option.some.inj (hNm.symm.trans (hK.1.2 2 _ rfl).2)
  rw [hs]
  subst hcA
  exact e1
theorem sm_cnewP {index : Nat} {a0 : Int32} (hC : CallFix p m c cc nL s args Ts own) (hK : sm_K v s) (hG : sm_GP v n Z M s H locs) (hs : sm_sh n = .inl (3, 4)) (hclink : (Cond.classLink own index "LinkMill$Part").before args s = true) (hover : (Cond.arrayOver (.object "LinkMill$Part")).before args s = true) (hn : ¬ a0 < 0) (hN : a0.toNatClampNeg = 4) (hcells : cells + 1 ≤ R.cells) (hslots : slots + 4 ≤ R.slots) (hdg : decode cc pc = .ok (.anewarray index, 3))
    (kk : ∀ H1 : Heap, sm_GP v (n + 1) Z M s H1 locs → W p l e R s m args below meth c H1 locs (cells + 1) (slots + 4) Q (F0 m (pc + 3) ls (.ref (sm_a v n) :: rest))) : W p l e R s m args below meth c H locs cells slots Q (F0 m pc ls (.int a0 :: rest)) := by
  obtain ⟨hx, hb, hml, hown, hts⟩ := hC
  refine W.anew hx hb hown hclink hover rfl hdg rfl hn (by rw [hN]; decide) hcells (by rw [hN]; exact hslots) fun cA kA comp f1 f2 f3 f4 => ?_
  rw [hN]
  have hcA : cA = v.2.2.2.2.2.1 := by
    obtain ⟨kA', comp', -, -, -, g4⟩ := (hK.1.2 3 _ rfl).2
    exact Option.some.inj (f1.symm.trans g4)
  generalize hH1 : H.push ({ cls := cA, slots := Array.replicate 4 .null, vm := .none } : Cell) = H1
  have z1 : H1.size = v.2.1 + n + 1 := by rw [← hH1, Array.size_push, hG.1]
  have e1 : H1[v.2.1 + n]? = some (arrV cA 4 (fun _ => .null)) := by rw [← hH1, ← hG.1, Array.getElem?_push_size, ← arrV_new]
  have o1 : ∀ q : Nat, q < v.2.1 + n → H1[q]? = H[q]? := fun q hq => by rw [← hH1, Array.getElem?_push, if_neg (by rw [hG.1]; exact Nat.ne_of_lt hq)]
  rw [hG.1]
  refine kk H1 (sm_grow hG z1 o1 ?_)
  have hZ : Z n = fun _ => false := funext fun b => hG.2.2.2.1 n b (Nat.le_refl _)
  rw [hZ, hs]
  subst hcA
  exact e1
theorem sm_size {n0 : Nat} {g : JFrame} (h0 : s.heap.size = v.2.1 + n0) (hc : n0 + cells = n) (hP : va_P v.1 vwCl (sm_wp v n Z M) H) (hpos : 0 < n) (kk : H.size = v.2.1 + n → W p l e R s m args below meth c H locs cells slots Q g) : W p l e R s m args below meth c H locs cells slots Q g := by
  intro T hT X
  have h1 := X.heapSize
  have h2 : v.2.1 + (n - 1) < H.size := (hP (n - 1) _ (sm_wp_at (by omega))).lt
  rw [hT] at h1
  exact kk (by omega) T hT X
theorem sm_cputF {C : String} {T : u_T} {N ci index j k i n0 : Nat} {fl : List (Option Nat)} {ty : FieldType} (ty0 : Nat → FieldType) (hty : ∀ k, k < N → parseFieldDescriptor (T k).2.2.1 = some (ty0 k)) (hnm : ∀ a, a < N → ∀ b, b < N → a ≠ b → (T a).2.1 ≠ (T b).2.1) (hC : CallFix p m c cc nL s args Ts own) (hK : sm_K v s) (hin2 : meth.name = "<init>") (h0 : s.heap.size = v.2.1 + n0) (hcn : n0 + cells = n) (hG : sm_GP v n Z M s H locs) (hin : ∀ w ∈ u_ws C T N, w ∈ Ts) (hk : k < n) (hs : sm_sh k = .inr (ci, fl)) (hc : vwCl[ci]? = some (C, T, N)) (hj : j < N) (hf : fl[j]? = some (some i)) (hfin : (T j).2.2.2 = true) (hdecl : (T j).1 = own) (hd : parseFieldDescriptor (T j).2.2.1 = some ty) (hn : ∀ a, narrow ty (.ref a) = .ref a) (hfit : ∀ a, fits ty (.ref a) = true) (hlink : (Cond.fieldLink own index (T j).1 (T j).2.1 (T j).2.2.1).before args s = true) (hdg : decode cc pc = .ok (.putfield index, 3))
    (kk : ∀ (H1 : Heap) (locs1 : List Loc), sm_GP v n (sm_zs Z k j) M s H1 locs1 → W p l e R s m args below meth c H1 locs1 cells slots Q (F0 m (pc + 3) ls rest)) : W p l e R s m args below meth c H locs cells slots Q (F0 m pc ls (.ref (sm_a v i) :: .ref (sm_a v k) :: rest)) := by
  obtain ⟨g1, g2, g3, g4⟩ := hG
  refine va_putF hC.1 hC.2.1 hC.2.2.2.2 hin ty0 hty hnm hC.2.2.2.1 hK.1 g2 sm_DP g3 k (fs := sm_fp (sm_a v) (Z k) (M k) fl 0) (by rw [sm_wp_at hk, hs]; rfl) hc j hj hlink (fun _ h => h) hfin hin2 hdecl hd (hn _) (hfit _) (by rw [sm_fp_len]; exact (List.getElem?_eq_some_iff.mp hf).1) hdg (fun H1 locs1 hP _ hS => ?_)
  rw [sm_fp_set hf] at hP
  have e := sm_wp_set (v := v) (n := n) (Z := Z) (Z' := sm_zs Z k j) (M := M) (M' := M) (k := k) hk (fun a ha => sm_zs_ne ha) (fun _ _ => rfl)
  rw [sm_zs_self, hs] at e
  have hP : va_P v.1 vwCl (sm_wp v n (sm_zs Z k j) M) H1 := e ▸ hP
  exact sm_size h0 hcn hP (by omega) (fun hz => kk H1 locs1 ⟨hz, hP, hS, g4.z hk⟩)
theorem sm_cgetr {C : String} {T : u_T} {N ci index j k i : Nat} {fl : List (Option Nat)} (hC : CallFix p m c cc nL s args Ts own) (hK : sm_K v s) (hG : sm_GP v n Z M s H locs) (hin : ∀ w ∈ u_ws C T N, w ∈ Ts) (hk : k < n) (hs : sm_sh k = .inr (ci, fl)) (hc : vwCl[ci]? = some (C, T, N)) (hj : j < N) (hf : fl[j]? = some (some i)) (hz : Z k j = true) (hlink : (Cond.fieldLink own index (T j).1 (T j).2.1 (T j).2.2.1).before args s = true) (hdg : decode cc pc = .ok (.getfield index, 3))
    (kk : W p l e R s m args below meth c H locs cells slots Q (F0 m (pc + 3) ls (.ref (sm_a v i) :: rest))) : W p l e R s m args below meth c H locs cells slots Q (F0 m pc ls (.ref (sm_a v k) :: rest)) :=
  va_get hC.1 hC.2.1 hC.2.2.2.2 hin hC.2.2.2.1 hK.1 hG.2.1 k (fs := sm_fp (sm_a v) (Z k) (M k) fl 0) (by rw [sm_wp_at hk, hs]; rfl) hc j hj hlink (fun _ h => h) (by rw [sm_fp_get, hf]; simp [hz]) hdg kk
/-- parts[i] = the Part whose cell is 3 + 14 i -/
theorem sm_cast {i : Int32} {n0 q : Nat} {fl : List (Option Nat)} (hC : CallFix p m c cc nL s args Ts own) (hK : sm_K v s) (h0 : s.heap.size = v.2.1 + n0) (hcn : n0 + cells = n) (hG : sm_GP v n Z M s H locs) (h2 : 2 < n) (hq : q = 3 + 14 * i.toNatClampNeg) (hqn : q < n) (hs : sm_sh q = .inr (2, fl)) (hin : vp_in i 4) (hdg : decode cc pc = .ok (.aastore, 1))
    (kk : ∀ (H1 : Heap) (locs1 : List Loc), sm_GP v n (sm_zs Z 2 i.toNatClampNeg) M s H1 locs1 → W p l e R s m args below meth c H1 locs1 cells slots Q (F0 m (pc + 1) ls rest)) : W p l e R s m args below meth c H locs cells slots Q (F0 m pc ls (.ref (sm_a v q) :: .int i :: .ref (sm_a v 2) :: rest)) := by
  obtain ⟨g1, g2, g3, g4⟩ := hG
  refine va_astq hC.1 hC.2.1 hK.1 g2 sm_DP g3 2 3 q 2 (cA := v.2.2.2.2.2.1) (r := (R_Part, T_Part, 13)) (n := 4) (vs := sm_fp (sm_a v) (Z q) (M q) fl 0) (f := fun i => if Z 2 i = true then some (sm_a v (3 + 14 * i)) else none) (by rw [sm_wp_at h2]; rfl) rfl (by rw [sm_wp_at hqn, hs]; rfl) rfl hin hdg (fun H1 locs1 hP _ hS => ?_)
  have e := sm_wp_set (v := v) (n := n) (Z := Z) (Z' := sm_zs Z 2 i.toNatClampNeg) (M := M) (M' := M) (k := 2) h2 (fun a ha => sm_zs_ne ha) (fun _ _ => rfl)
  have e2 : sm_EP v (sm_zs Z 2 i.toNatClampNeg 2) (M 2) (sm_sh 2) = .inl (v.2.2.2.2.2.1, 4, .inr (.inr (.inr (.inr (va_up (fun i => if Z 2 i = true then some (sm_a v (3 + 14 * i)) else none) i.toNatClampNeg (some (sm_a v q))))))) := by
    show (Sum.inl (v.2.2.2.2.2.1, 4, .inr (.inr (.inr (.inr (fun b => if sm_zs Z 2 i.toNatClampNeg 2 b = true then some (sm_a v (3 + 14 * b)) else none))))) : va_E) = _
    have e3 : (fun b => if sm_zs Z 2 i.toNatClampNeg 2 b = true then some (sm_a v (3 + 14 * b)) else none) = va_up (fun i => if Z 2 i = true then some (sm_a v (3 + 14 * i)) else none) i.toNatClampNeg (some (sm_a v q)) := by
      funext b
      by_cases hb : b = i.toNatClampNeg
      · subst hb
        simp [sm_zs, va_up, hq]
      · simp [sm_zs, va_up, hb]
    rw [e3]
  rw [e2] at e
  have hP : va_P v.1 vwCl (sm_wp v n (sm_zs Z 2 i.toNatClampNeg) M) H1 := e ▸ hP
  exact sm_size h0 hcn hP (by omega) (fun hz => kk H1 locs1 ⟨hz, hP, hS, g4.z h2⟩)
theorem sm_ciast {k N n0 : Nat} {i x : Int32} (hC : CallFix p m c cc nL s args Ts own) (hK : sm_K v s) (h0 : s.heap.size = v.2.1 + n0) (hcn : n0 + cells = n) (hG : sm_GP v n Z M s H locs) (hk : k < n) (hs : sm_sh k = .inl (0, N)) (hin : vp_in i N) (hdg : decode cc pc = .ok (.iastore, 1))
    (kk : ∀ (H1 : Heap) (locs1 : List Loc), sm_GP v n Z (sm_up M k i.toNatClampNeg x) s H1 locs1 → W p l e R s m args below meth c H1 locs1 cells slots Q (F0 m (pc + 1) ls rest)) : W p l e R s m args below meth c H locs cells slots Q (F0 m pc ls (.int x :: .int i :: .ref (sm_a v k) :: rest)) := by
  obtain ⟨g1, g2, g3, g4⟩ := hG
  refine va_iast hC.1 hC.2.1 hK.1 g2 sm_DP g3 k 0 (cA := v.2.2.1) (n := N) (f := M k) (by rw [sm_wp_at hk, hs]; rfl) rfl hin hdg (fun H1 locs1 hP _ hS => ?_)
  have e := sm_wp_set (v := v) (n := n) (Z := Z) (Z' := Z) (M := M) (M' := sm_up M k i.toNatClampNeg x) (k := k) hk (fun _ _ => rfl) (fun a ha => by simp [sm_up, ha])
  have e1 : sm_up M k i.toNatClampNeg x k = upd (M k) i.toNatClampNeg x := by simp [sm_up]
  rw [e1, hs] at e
  have hP : va_P v.1 vwCl (sm_wp v n Z (sm_up M k i.toNatClampNeg x)) H1 := e ▸ hP
  exact sm_size h0 hcn hP (by omega) (fun hz => kk H1 locs1 ⟨hz, hP, hS, g4.m hk⟩)
theorem sm_preI {b : Addr} {As : List Value} (hK : sm_K v s) (hAO : va_AO "LinkMill$Part" s) (hG : sm_GP v n Z M s H locs) : PreS s H (sm_PcP v n Z M (.ref b :: As)) (.ref b :: As) :=
  ⟨fun a U g mk q => ⟨q.1, q.2.1, sm_K_calling q.2.2.1, va_AO.moved (u := U) (U := U.calling g mk a) (Vm.Alike.refl U.vm) q.2.2.2⟩, fun U hU hW => ⟨rfl, ⟨by rw [hU]; exact hG.1, by rw [hU]; exact hG.2.1, hG.2.2.2⟩, sm_K_at hK hG.2.2.1 hU hW, va_AO.moved hW.alike hAO⟩⟩
theorem sm_callI {st0 : List Value} {a : Array Value} {n' mc ms : Nat} {Z' : sm_ZT} {M' : sm_M} (hr : va_Run p l e R s m args below meth c H locs cells slots mc ms (F0 m pc ls st0) rest (sm_QvP v n' Z' M' a) (sm_A v)) (hG : sm_GP v n Z M s H locs)
    (kk : ∀ (H1 : Heap) (locs1 : List Loc), sm_GP v n' Z' M' s H1 locs1 → W p l e R s m args below meth c H1 locs1 (cells + mc) (slots + ms) Q (F0 m (pc + 3) ls rest)) : W p l e R s m args below meth c H locs cells slots Q (F0 m pc ls st0) := by
  refine va_callv hr hG.2.2.1 (fun q _ h => h) (fun q h => h) (fun u t H1 locs1 ht hvm hx hB hz hk hS => ?_)
  rw [ht] at hB
  exact kk H1 locs1 ⟨hB.1, hB.2.1, hS, hB.2.2⟩
theorem sm_vretP (hC : CallFix p m c cc nL s args Ts own) (hr : meth.sig.returnType = none) (hlk : meth.locks = false) (hG : sm_GP v n Z M s H locs) (hdg : decode cc pc = .ok (.return_, 1)) : W p l e R s m args below meth c H locs cells slots (MQ below (sm_QvP v n Z M) args s cells slots (sm_A v)) (F0 m pc ls []) :=
  W.vret hC.1 hC.2.1 hr (fun t ht hW => ⟨⟨(), rfl, trivial, by show t.heap.size = _; rw [ht]; exact hG.1, by show va_P _ _ _ t.heap; rw [ht]; exact hG.2.1, hG.2.2.2⟩, hG.2.2.1.F ht⟩) hG.2.2.1.2.2 hdg hlk
theorem sm_objI {idx : Nat} {w0 : Cond} {a : Addr} (hC : CallFix p m c cc nL s args (w0 :: sm_AW) own) (h1 : Cond.methodLink own idx objectInit ∈ sm_AW) (h2 : Cond.instanceMethod objectInit ∈ sm_AW) (h3 : Cond.code objectInit ⟨#[0xb1]⟩ 1 none ∈ sm_AW) (hsz : ls.size = nL) (hR : 1 ≤ R.frames ∧ (rest.map fun v => v.category).sum + 12 ≤ R.locals) (hdg : decode cc pc = .ok (.invokespecial idx, 3))
    (kk : W p l e R s m args below meth c H locs cells slots Q (F0 m (pc + 3) ls rest)) : W p l e R s m args below meth c H locs cells slots Q (F0 m pc ls (.ref a :: rest)) := by
  have w : ∀ z ∈ sm_AW, z.before args s = true := fun z h => hC.2.2.2.2 z (List.mem_cons_of_mem _ h)
  refine W.objInit (rest := rest) hC.1 hC.2.1 hC.2.2.2.1 (w _ h1) (w _ h2) (w _ h3) rfl (by rw [hC.2.2.1]; exact hsz) rfl hdg hR.1 (by show 2 * 0 + _ + 12 ≤ _; omega) ?_
  exact kk
end SMP
theorem sm_metP {l : Launch} {v : sm_V} {Z : sm_ZT} {M : sm_M} {n : Nat} {y : MethodName} {ws ws' : List Cond} {rm : Room} {Qc : Array Value → State → Outcome → State → Prop} {mc ms : Nat} {free : Addr → Prop} {cc : ByteArray} {nL : Nat} {ret : Option FieldType} {av : List Value}
    (hy : plainFor y = true) (hin : y.name = "<init>") (hw : ws = Cond.code y cc nL ret :: ws') (hlen : (lg_sl av).length ≤ nL)
    (body : ∀ p e s m args below meth c, CallFix p m c cc nL s args ws y.cls → meth.sig.returnType = ret → meth.locks = false → meth.name = "<init>" → sm_K v s → va_AO "LinkMill$Part" s → s.heap.size = v.2.1 + n → sm_GP v n Z M s s.heap [] → ∀ ls, lv_has ls nL (lv_args 0 av) →
      W p l e rm s m args below meth c s.heap [] 0 0 (MQ below Qc args s mc ms free) (F0 m 0 ls [])) : Met l y ws rm (sm_PcP v n Z M av) Qc mc ms free := by
  refine va_MetF (cc := cc) (maxL := nL) (ret := ret) hy hw ?_
  intro p e s m args below meth c s₁ B hml hv
  obtain ⟨rfl, ⟨hz, hP, hf⟩, hK, hAO⟩ := hv
  rw [lg_entry_eq]
  exact body p e s m _ below meth c ⟨B.exec, B.bytes, hml, findClass_of_methodNamed B.named, atoms_spec (ws := ws) B.pre⟩ B.returns B.notSynchronized ((name_of_methodNamed B.named B.method).1.trans hin) hK hAO hz ⟨hz, hP, va_S.rf, hf⟩ _ (lv_entry av hlen)

