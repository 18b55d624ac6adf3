def LK (B : sm_M) (ST : Nat → Int32) : Nat → Nat → Int32
  | 0 => B 82
  | f + 1 => if there B f then (fun j => if j = atF B f then fixd (B 79 f) (LK B ST f (atF B f)) (vF B ST f) (pF B ST f) else LK B ST f j) else LK B ST f
def P2 (B : sm_M) (ST : Nat → Int32) (f : Nat) : Prop := there B f ∧ f_Fix_reaches (B 79 f) (vF B ST f - pF B ST f) = some 0
theorem rea_c {A : sm_M} {ST : Nat → Int32} (h : ∀ o, o < 4 → NInv A o) (hF : ∀ o, o < 4 → FInv A o) (h59 : ∀ o s, o < 4 → s < 2 → A 59 (4 * s + o) = ST (2 * o + s)) (h60 : ∀ j, j < 16 → A 60 j = oV A ST (gO A (Int32.ofNat j))) : (∃ e, e < 64 ∧ P2 A ST e ∧ (∀ e', e' < e → ¬ P2 A ST e') ∧ f_Linker_firstFixOutOfReach A = some (c100 e)) ∨ ((∀ e, e < 64 → ¬ P2 A ST e) ∧ f_Linker_firstFixOutOfReach A = some (-1)) := by
  have L4 := L_4
  refine srch_out (G := g_Linker_firstFixOutOfReach_2 A) (P := P2 A ST) ?_ (fun rec w hw => by rw [g_Linker_firstFixOutOfReach_2, if_pos (by rw [t_le]; omega)]) 1100 0 0 rfl (by omega) (by omega) (fun e he => by omega)
  intro rec o w hw ho
  rw [g_Linker_firstFixOutOfReach_2, if_neg (by rw [t_le]; omega)]
  have w2 : w.toNatClampNeg = o := by rw [t_n]; omega
  obtain ⟨n1, n2⟩ := (hF o ho).nfr
  have key := srch_in (g := g_Linker_firstFixOutOfReach_9 A w rec) (nf := (A 76 o).toInt.toNat) (bad := fun k => f_Fix_reaches (A 79 (16 * o + k)) (vF A ST (16 * o + k) - pF A ST (16 * o + k)) = some 0) (R := rec (w + 1)) (w1 := w) (by
    intro rec9 k x hx hk
    rw [g_Linker_firstFixOutOfReach_9, i_gd (by omega) (by omega), i_nm, w2, (hF o ho).nf]
    by_cases c : A 76 o ≤ x
    · rw [t_le] at c
      rw [if_pos (by rw [t_le]; exact c)]
      exact Or.inl ⟨by omega, rfl⟩
    · rw [if_neg c]
      rw [t_le] at c
      have x2 : x.toNatClampNeg = k := by rw [t_n]; omega
      rw [fxv_c h hF h59 h60 hw ho hx (by omega), i_b1, fxa_c hF h59 hw ho hx (by omega), i_b1, i_nm, i_gd (by omega) (by omega), i_nm, i_gd (by omega) (by omega), x2, (hF o ho).fk k (by omega)]
      rcases rea_2 (A 79 (16 * o + k)) (vF A ST (16 * o + k) - pF A ST (16 * o + k)) with q | q
      · rw [q, i_b1, if_pos rfl]
        exact Or.inr (Or.inl ⟨by omega, rfl, rfl⟩)
      · rw [q, i_b1, if_neg (by decide)]
        exact Or.inr (Or.inr ⟨by omega, by simp, rfl⟩)) (by omega) 1100 0 0 rfl (by omega) (by omega)
  have th : ∀ e, e < 16 → (P2 A ST (16 * o + e) ↔ e < (A 76 o).toInt.toNat ∧ f_Fix_reaches (A 79 (16 * o + e)) (vF A ST (16 * o + e) - pF A ST (16 * o + e)) = some 0) := fun e he => by
    unfold P2 there
    rw [show (16 * o + e) / 16 = o by omega, show (16 * o + e) % 16 = e by omega]
    refine ⟨?_, ?_⟩
    · rintro ⟨a, b⟩; exact ⟨by omega, b⟩
    · rintro ⟨a, b⟩; exact ⟨by omega, b⟩
  rcases key with ⟨e, p1, p2, p3, p4, p5⟩ | ⟨p1, p2⟩
  · exact Or.inl ⟨e, by omega, (th e (by omega)).mpr ⟨p2, p3⟩, fun e' q z => p4 e' (by omega) q ((th e' (by omega)).mp z).2, p5⟩
  · exact Or.inr ⟨fun e' q z => p1 e' (by omega) ((th e' q).mp z).1 ((th e' q).mp z).2, p2⟩
theorem rea_m {B : sm_M} {ST : Nat → Int32} (h : ∀ o, o < 4 → NInv B o) (hF : ∀ o, o < 4 → FInv B o) (h83 : ∀ i, i < 8 → B 83 i = ST i) (x : Int32) (hn : ∀ e, e < 64 → ¬ P1 B e) : ∀ (f e : Nat) (w : Int32), w.toInt = e → e ≤ 64 → 64 - e < f → (∀ e', e' < e → ¬ P2 B ST e') → (∃ e0 L, e0 < 64 ∧ P2 B ST e0 ∧ (∀ e', e' < e0 → ¬ P2 B ST e') ∧ sm_lp2 (g_Model_refusal_95 x) f (sm_pt B 82 (LK B ST e)) w = some (-3000 - c100 e0, sm_pt B 82 L)) ∨ ((∀ e, e < 64 → ¬ P2 B ST e) ∧ sm_lp2 (g_Model_refusal_95 x) f (sm_pt B 82 (LK B ST e)) w = if gO B x = none then some (-4000 - x, sm_pt B 82 (LK B ST 64)) else some (0, sm_pt B 82 (LK B ST 64)))
  | 0, e, w, _, _, h, _ => by omega
  | f + 1, e, w, hw, he, hf, hb => by
    have L64 : (64 : Int32).toInt = 64 := rfl
    have fr : ∀ k, k ≠ 82 → sm_pt B 82 (LK B ST e) k = B k := fun k hk => pt_ne hk
    have h' : ∀ o, o < 4 → NInv (sm_pt B 82 (LK B ST e)) o := fun o ho => (h o ho).congr (fun k j z => by unfold ownN at z; rw [fr k (by omega)])
    have hF' : ∀ o, o < 4 → FInv (sm_pt B 82 (LK B ST e)) o := fun o ho => (hF o ho).congr (fun k j z => by unfold ownF at z; rw [fr k (by omega)])
    rw [lp2_s, g_Model_refusal_95]
    by_cases c : e = 64
    · subst c
      rw [if_pos (by rw [t_le]; omega), glo_m h', i_b1, gO_cg (fr 71 (by omega)) (fr 72 (by omega)) (fr 75 (by omega))]
      refine Or.inr ⟨hb, ?_⟩
      have b := oi_m1 (b := 0) (x := gO B x) (fun d q => by have := gO_lt h q; omega)
      by_cases q : gO B x = none
      · rw [if_pos q, if_pos (b.mpr q)]
      · rw [if_neg q, if_neg (fun z => q (b.mp z))]
    · have ei := t_inc (x := w) (by omega)
      have d1 := t_div16 w (by omega)
      have d2 := t_r16 (w := w) (by omega)
      have d3 : (w / 16).toNatClampNeg = e / 16 := by rw [t_n]; omega
      rw [if_neg (by rw [t_le]; omega), i_gd (by omega) (by omega), d3, fr 76 (by omega)]
      by_cases c2 : B 76 (e / 16) ≤ w - w / 16 * 16
      · rw [if_pos c2, j_Model_refusal_122, if_pos rfl, j_Model_refusal_135, j_Model_refusal_140, if_neg (by decide)]
        rw [t_le] at c2
        have th : ¬ there B e := by unfold there; omega
        have el : LK B ST (e + 1) = LK B ST e := by rw [LK, if_neg th]
        rw [← el]
        exact rea_m h hF h83 x hn f (e + 1) (w + 1) (by omega) (by omega) (by omega) (fun e' q => by
          by_cases q2 : e' = e
          · rw [q2]; exact fun z => th z.1
          · exact hb e' (by omega))
      · rw [if_neg c2, j_Model_refusal_122, if_neg (by decide)]
        rw [t_le] at c2
        have th : there B e := by unfold there; omega
        have ne := hn e (by omega)
        have fr2 : ∀ k, 71 ≤ k → k ≤ 81 → sm_pt B 82 (LK B ST e) k = B k := fun k a b => fr k (by omega)
        have m := mak_s (ST := ST) h' hF' (fun i hi => by rw [fr 83 (by omega)]; exact h83 i hi) hw (by omega) (by rw [nd_cg (fr 71 (by omega)) (fr 72 (by omega)) (fr 75 (by omega)), fr 80 (by omega)]; exact fun z => ne ⟨th, z⟩)
        rw [vF_cg fr2, pF_cg fr2, fr 79 (by omega), show atF (sm_pt B 82 (LK B ST e)) e = atF B e by unfold atF; rw [fr 77 (by omega), fr 78 (by omega)], pt_of] at m
        rcases rea_2 (B 79 e) (vF B ST e - pF B ST e) with q | q
        · rw [m.1 q, i_b2]
          refine Or.inl ⟨e, LK B ST e, by omega, ⟨th, q⟩, hb, ?_⟩
          have q1 := of_t (w := w / 16) (i := e / 16) (by omega)
          have q2 := of_t (w := w - w / 16 * 16) (i := e % 16) (by omega)
          have z : ∀ a b : Int32, -3000 - 100 * a - b = -3000 - (100 * a + b) := fun a b => by grind
          rw [if_pos rfl, j_Model_refusal_140, if_pos rfl, ← q2, ← q1, c100, z]
        · rw [m.2 q, i_b2, if_neg (show ¬ (1 : Int32) = 0 by decide), j_Model_refusal_135, j_Model_refusal_140, if_neg (by decide)]
          have el : sm_up (sm_pt B 82 (LK B ST e)) 82 (atF B e) (fixd (B 79 e) (LK B ST e (atF B e)) (vF B ST e) (pF B ST e)) = sm_pt B 82 (LK B ST (e + 1)) := by
            rw [up_pt, pt_pt, pt_of, LK, if_pos th]
          rw [el]
          exact rea_m h hF h83 x hn f (e + 1) (w + 1) (by omega) (by omega) (by omega) (fun e' q' => by
            by_cases q2 : e' = e
            · rw [q2]; exact fun z => by rw [z.2] at q; simp at q
            · exact hb e' (by omega))
theorem ref_all {A B : sm_M} {ST : Nat → Int32} (hS : stOK ST) (hA : ∀ o, o < 4 → NInv A o) (hFA : ∀ o, o < 4 → FInv A o) (hB : ∀ o, o < 4 → NInv B o) (hFB : ∀ o, o < 4 → FInv B o) (hAB : ∀ k, 71 ≤ k → k ≤ 81 → A k = B k) (h59 : ∀ o s, o < 4 → s < 2 → A 59 (4 * s + o) = ST (2 * o + s)) (h60 : ∀ j, j < 16 → A 60 j = fG A ST (Int32.ofNat j)) (h83 : ∀ i, i < 8 → B 83 i = ST i) {x : Int32} (hx0 : 0 ≤ x.toInt) (hx1 : x.toInt < 16) : ∃ r L, f_Linker_refusalOf A x = some r ∧ f_Model_refusal B x = some (r, sm_pt B 82 L) ∧ ((r.toInt < 0) ∨ (r = 0 ∧ L = LK B ST 64 ∧ (∀ e, e < 64 → ¬ P1 B e) ∧ (∀ j, j < 16 → A 60 j = oV B ST (gO B (Int32.ofNat j))) ∧ gO B x ≠ none)) := by
  have e71 := hAB 71 (by omega) (by omega)
  have e72 := hAB 72 (by omega) (by omega)
  have e75 := hAB 75 (by omega) (by omega)
  have L1000 : (-1000 : Int32).toInt = -1000 := rfl
  have L2000 : (-2000 : Int32).toInt = -2000 := rfl
  have L3000 : (-3000 : Int32).toInt = -3000 := rfl
  have L4000 : (-4000 : Int32).toInt = -4000 := rfl
  have L100 : (100 : Int32).toInt = 100 := rfl
  have tc : ∀ e, e < 64 → 0 ≤ (c100 e).toInt ∧ (c100 e).toInt < 400 := fun e he => by
    have a1 := t_of (n := e / 16) (by omega)
    have a2 := t_of (n := e % 16) (by omega)
    have a3 : (100 * Int32.ofNat (e / 16)).toInt = 100 * (e / 16 : Nat) := by rw [t_mul] <;> rw [L100] <;> omega
    unfold c100
    rw [t_add] <;> omega
  rw [f_Linker_refusalOf, f_Model_refusal]
  rcases lea_c hA 1100 0 0 rfl (by omega) (by omega) (fun m hm => by omega) with ⟨m, a1, a2, a3, a4⟩ | ⟨a1, a2⟩
  · rcases lea_m hB x 1100 0 0 rfl (by omega) (by omega) (fun m hm => by omega) with ⟨m', b1, b2, b3, b4⟩ | ⟨b1, b2⟩
    · have : m = m' := by
        rcases Nat.lt_trichotomy m m' with z | z | z
        · exact absurd (dbl_cg e71 e72 e75 _ ▸ a2) (b3 m z)
        · exact z
        · exact absurd (dbl_cg e71 e72 e75 _ ▸ b2) (a3 m' z)
      subst this
      have tm := t_of (n := m) (by omega)
      have a4' : f_Linker_leastDoubledName A = some (Int32.ofNat m) := a4
      refine ⟨-1000 - Int32.ofNat m, B 82, ?_, by rw [b4, pt_self], Or.inl ?_⟩
      · rw [a4', i_b1, if_neg (fun z => by have := congrArg Int32.toInt z; rw [tm, t_m1] at this; omega)]
      · rw [t_sub] <;> omega
    · exact absurd (dbl_cg e71 e72 e75 _ ▸ a2) (b1 m a1)
  have a2' : f_Linker_leastDoubledName A = some (-1) := a2
  have nd1 : ∀ m, m < 16 → ¬ dbl B (Int32.ofNat m) := fun m hm => dbl_cg e71 e72 e75 _ ▸ a1 m hm
  rw [a2', i_b1, if_pos rfl]
  rcases lea_m hB x 1100 0 0 rfl (by omega) (by omega) (fun m hm => by omega) with ⟨m', b1, b2, b3, b4⟩ | ⟨b1, b2⟩
  · exact absurd b2 (nd1 m' b1)
  rw [b2]
  have h60' : ∀ j, j < 16 → A 60 j = oV A ST (gO A (Int32.ofNat j)) := fun j hj => by rw [h60 j hj, fG_gO (a1 j hj)]
  have hP1 : ∀ e, P1 A e = P1 B e := fun e => by
    unfold P1 there
    rw [nd_cg e71 e72 e75, hAB 76 (by omega) (by omega), hAB 80 (by omega) (by omega)]
  have hP2 : ∀ e, P2 A ST e = P2 B ST e := fun e => by
    unfold P2 there
    rw [vF_cg hAB, pF_cg hAB, hAB 76 (by omega) (by omega), hAB 79 (by omega) (by omega)]
  rcases nam_c hS hA hFA h59 h60' with ⟨e, c1, c2, c3, c4⟩ | ⟨c1, c2⟩
  · rcases nam_m hB hFB x 1100 0 0 rfl (by omega) (by omega) (fun e he => by omega) with ⟨e', d1, d2, d3, d4⟩ | ⟨d1, d2⟩
    · have : e = e' := by
        rcases Nat.lt_trichotomy e e' with z | z | z
        · exact absurd (hP1 e ▸ c2) (d3 e z)
        · exact z
        · exact absurd (hP1 e' ▸ d2) (c3 e' z)
      subst this
      have tm := tc e c1
      refine ⟨-2000 - c100 e, B 82, ?_, by rw [d4, pt_self], Or.inl ?_⟩
      · rw [c4, i_b1, if_neg (fun z => by have := congrArg Int32.toInt z; rw [t_m1] at this; omega)]
      · rw [t_sub] <;> omega
    · exact absurd (hP1 e ▸ c2) (d1 e c1)
  rw [c2, i_b1, if_pos rfl]
  rcases nam_m hB hFB x 1100 0 0 rfl (by omega) (by omega) (fun e he => by omega) with ⟨e', d1, d2, d3, d4⟩ | ⟨d1, d2⟩
  · exact absurd (hP1 e' ▸ d2) (c1 e' d1)
  rw [d2]
  have rm := rea_m hB hFB h83 x d1 1100 0 0 rfl (by omega) (by omega) (fun e he => by omega)
  rw [show sm_pt B 82 (LK B ST 0) = B from pt_self B 82] at rm
  rcases rea_c hA hFA h59 h60' with ⟨e, c1', c2', c3', c4'⟩ | ⟨c1', c2'⟩
  · rcases rm with ⟨e', L, f1, f2, f3, f4⟩ | ⟨f1, f2⟩
    · have : e = e' := by
        rcases Nat.lt_trichotomy e e' with z | z | z
        · exact absurd (hP2 e ▸ c2') (f3 e z)
        · exact z
        · exact absurd (hP2 e' ▸ f2) (c3' e' z)
      subst this
      have tm := tc e c1'
      refine ⟨-3000 - c100 e, L, ?_, f4, Or.inl ?_⟩
      · rw [c4', i_b1, if_neg (fun z => by have := congrArg Int32.toInt z; rw [t_m1] at this; omega)]
      · rw [t_sub] <;> omega
    · exact absurd (hP2 e ▸ c2') (f1 e c1')
  rw [c2', i_b1, if_pos rfl]
  rcases rm with ⟨e', L, f1, f2, f3, f4⟩ | ⟨f1, f2⟩
  · exact absurd (hP2 e' ▸ f2) (c1' e' f1)
  have hx2 := of_t (w := x) (i := x.toInt.toNat) (by omega)
  have hx3 := h60' x.toInt.toNat (by omega)
  rw [hx2] at hx3
  rw [f2, i_gd (by omega) (by omega), t_n, hx3]
  have b := oV_m1 hS hA (y := gO A x) (fun i q => gO_lt hA q)
  by_cases q : gO B x = none
  · rw [if_pos q, if_pos (b.mpr (by rw [gO_cg e71 e72 e75]; exact q))]
    exact ⟨_, _, rfl, rfl, Or.inl (by rw [t_sub] <;> omega)⟩
  · rw [if_neg q, if_neg (fun z => q (by rw [← gO_cg e71 e72 e75]; exact b.mp z))]
    exact ⟨_, _, rfl, rfl, Or.inr ⟨rfl, rfl, d1, fun j hj => by rw [h60' j hj, gO_cg e71 e72 e75, oV_cg (hAB 73 (by omega) (by omega)) (hAB 74 (by omega) (by omega))], q⟩⟩
