def vF (B : sm_M) (ST : Nat → Int32) (f : Nat) : Int32 := oV B ST (nd B (f / 16) (B 80 f)) + B 81 f
def pF (B : sm_M) (ST : Nat → Int32) (f : Nat) : Int32 := ST (2 * (f / 16) + (B 77 f).toInt.toNat) + 4 * B 78 f
abbrev there (B : sm_M) (f : Nat) : Prop := ((f % 16 : Nat) : Int) < (B 76 (f / 16)).toInt
def c100 (f : Nat) : Int32 := 100 * Int32.ofNat (f / 16) + Int32.ofNat (f % 16)
theorem fs_t {B : sm_M} (h : ∀ o, o < 4 → FInv B o) {f : Nat} (hf : f < 64) : (B 77 f).toInt = 0 ∨ (B 77 f).toInt = 1 := by
  have g := (h (f / 16) (by omega)).fsr (f % 16) (by omega)
  rw [show 16 * (f / 16) + f % 16 = f by omega] at g
  rcases g with g | g <;> rw [g]
  · exact Or.inl rfl
  · exact Or.inr rfl
theorem fp_t {B : sm_M} (h : ∀ o, o < 4 → FInv B o) {f : Nat} (hf : f < 64) : 0 ≤ (B 78 f).toInt ∧ (B 78 f).toInt < 24 := by
  have g := (h (f / 16) (by omega)).fpr (f % 16) (by omega)
  rw [show 16 * (f / 16) + f % 16 = f by omega] at g
  exact g
theorem fk_t {B : sm_M} (h : ∀ o, o < 4 → FInv B o) {f : Nat} (hf : f < 64) : 0 ≤ (B 79 f).toInt ∧ (B 79 f).toInt < 5 := by
  have g := (h (f / 16) (by omega)).fkr (f % 16) (by omega)
  rw [show 16 * (f / 16) + f % 16 = f by omega] at g
  exact g
theorem fn_t {B : sm_M} (h : ∀ o, o < 4 → FInv B o) {f : Nat} (hf : f < 64) : 0 ≤ (B 80 f).toInt ∧ (B 80 f).toInt < 16 := by
  have g := (h (f / 16) (by omega)).fnr (f % 16) (by omega)
  rw [show 16 * (f / 16) + f % 16 = f by omega] at g
  exact g
theorem fxa_c {A : sm_M} {ST : Nat → Int32} (hF : ∀ o, o < 4 → FInv A o) (h59 : ∀ o s, o < 4 → s < 2 → A 59 (4 * s + o) = ST (2 * o + s)) {o k : Int32} {on kn : Nat} (ho : o.toInt = on) (h4 : on < 4) (hk : k.toInt = kn) (h16 : kn < 16) : f_Linker_fixAddress A o k = some (pF A ST (16 * on + kn)) := by
  have o2 : o.toNatClampNeg = on := by rw [t_n]; omega
  have k2 : k.toNatClampNeg = kn := by rw [t_n]; omega
  have a := fs_t hF (f := 16 * on + kn) (by omega)
  rw [f_Linker_fixAddress, i_gd (by omega) (by omega), i_nm, i_gd (by omega) (by omega), i_gd (by omega) (by omega), i_nm, i_gd (by omega) (by omega), o2, k2, (hF on h4).fs kn h16, (hF on h4).fp kn h16, c_adr h59 ho h4 (sn := (A 77 (16 * on + kn)).toInt.toNat) (by omega) (by omega), i_b1, pF, show (16 * on + kn) / 16 = on by omega]
theorem fxv_c {A : sm_M} {ST : Nat → Int32} (h : ∀ o, o < 4 → NInv A o) (hF : ∀ o, o < 4 → FInv A o) (h59 : ∀ o s, o < 4 → s < 2 → A 59 (4 * s + o) = ST (2 * o + s)) (h60 : ∀ j, j < 16 → A 60 j = oV A ST (gO A (Int32.ofNat j))) {o k : Int32} {on kn : Nat} (ho : o.toInt = on) (h4 : on < 4) (hk : k.toInt = kn) (h16 : kn < 16) : f_Linker_fixValue A o k = some (vF A ST (16 * on + kn)) := by
  have o2 : o.toNatClampNeg = on := by rw [t_n]; omega
  have k2 : k.toNatClampNeg = kn := by rw [t_n]; omega
  have a := fn_t hF (f := 16 * on + kn) (by omega)
  rw [f_Linker_fixValue, i_gd (by omega) (by omega), i_nm, i_gd (by omega) (by omega), o2, k2, (hF on h4).fn kn h16, adf_c h h59 h60 ho h4 a.1 a.2, i_b1, i_gd (by omega) (by omega), i_nm, i_gd (by omega) (by omega), (hF on h4).fa kn h16, vF, show (16 * on + kn) / 16 = on by omega]
theorem srch_in {g : (Int32 → Option Int32) → Int32 → Option Int32} {nf : Nat} {bad : Nat → Prop} {R : Option Int32} {w1 : Int32} (hg : ∀ (rec : Int32 → Option Int32) (k : Nat) (w : Int32), w.toInt = k → k ≤ 16 → (nf ≤ k ∧ g rec w = R) ∨ (k < nf ∧ bad k ∧ g rec w = some (100 * w1 + w)) ∨ (k < nf ∧ ¬ bad k ∧ g rec w = rec (w + 1))) (hn : nf ≤ 16) : ∀ (f k : Nat) (w : Int32), w.toInt = k → k ≤ nf → nf - k < f → (∃ e, k ≤ e ∧ e < nf ∧ bad e ∧ (∀ e', k ≤ e' → e' < e → ¬ bad e') ∧ sm_lp1 g f w = some (100 * w1 + Int32.ofNat e)) ∨ ((∀ e', k ≤ e' → e' < nf → ¬ bad e') ∧ sm_lp1 g f w = R)
  | 0, k, w, _, _, h => by omega
  | f + 1, k, w, hw, hk, hf => by
    rw [lp1_s]
    rcases hg (sm_lp1 g f) k w hw (by omega) with ⟨a, b⟩ | ⟨a, b, c⟩ | ⟨a, b, c⟩
    · exact Or.inr ⟨fun e' p q => by omega, b⟩
    · exact Or.inl ⟨k, by omega, a, b, fun e' p q => by omega, by rw [c, of_t hw]⟩
    · have ei := t_inc (x := w) (by omega)
      rw [c]
      rcases srch_in hg hn f (k + 1) (w + 1) (by omega) (by omega) (by omega) with ⟨e, p1, p2, p3, p4, p5⟩ | ⟨p1, p2⟩
      · refine Or.inl ⟨e, by omega, p2, p3, fun e' q1 q2 => ?_, p5⟩
        by_cases q : e' = k
        · rw [q]; exact b
        · exact p4 e' (by omega) q2
      · refine Or.inr ⟨fun e' q1 q2 => ?_, p2⟩
        by_cases q : e' = k
        · rw [q]; exact b
        · exact p1 e' (by omega) q2
theorem srch_out {G : (Int32 → Option Int32) → Int32 → Option Int32} {P : Nat → Prop} (hG : ∀ (rec : Int32 → Option Int32) (o : Nat) (w : Int32), w.toInt = o → o < 4 → (∃ e, e < 16 ∧ P (16 * o + e) ∧ (∀ e', e' < e → ¬ P (16 * o + e')) ∧ G rec w = some (100 * w + Int32.ofNat e)) ∨ ((∀ e', e' < 16 → ¬ P (16 * o + e')) ∧ G rec w = rec (w + 1))) (hG4 : ∀ (rec : Int32 → Option Int32) (w : Int32), w.toInt = 4 → G rec w = some (-1)) : ∀ (f o : Nat) (w : Int32), w.toInt = o → o ≤ 4 → 4 - o < f → (∀ e, e < 16 * o → ¬ P e) → (∃ e, e < 64 ∧ P e ∧ (∀ e', e' < e → ¬ P e') ∧ sm_lp1 G f w = some (c100 e)) ∨ ((∀ e, e < 64 → ¬ P e) ∧ sm_lp1 G f w = some (-1))
  | 0, o, w, _, _, h, _ => by omega
  | f + 1, o, w, hw, ho, hf, hb => by
    rw [lp1_s]
    by_cases c : o = 4
    · subst c
      exact Or.inr ⟨hb, hG4 _ _ hw⟩
    · rcases hG (sm_lp1 G f) o w hw (by omega) with ⟨e, p1, p2, p3, p4⟩ | ⟨p1, p2⟩
      · refine Or.inl ⟨16 * o + e, by omega, p2, fun e' q => ?_, ?_⟩
        · by_cases q2 : e' < 16 * o
          · exact hb e' q2
          · have := p3 (e' - 16 * o) (by omega)
            rwa [show 16 * o + (e' - 16 * o) = e' by omega] at this
        · rw [p4, c100, show (16 * o + e) / 16 = o by omega, show (16 * o + e) % 16 = e by omega, of_t hw]
      · have ei := t_inc (x := w) (by omega)
        rw [p2]
        exact srch_out hG hG4 f (o + 1) (w + 1) (by omega) (by omega) (by omega) (fun e q => by
          by_cases q2 : e < 16 * o
          · exact hb e q2
          · have := p1 (e - 16 * o) (by omega)
            rwa [show 16 * o + (e - 16 * o) = e by omega] at this)
def P1 (B : sm_M) (f : Nat) : Prop := there B f ∧ nd B (f / 16) (B 80 f) = none
theorem nam_c {A : sm_M} {ST : Nat → Int32} (hS : stOK ST) (h : ∀ o, o < 4 → NInv A o) (hF : ∀ o, o < 4 → FInv A o) (h59 : ∀ o s, o < 4 → s < 2 → A 59 (4 * s + o) = ST (2 * o + s)) (h60 : ∀ j, j < 16 → A 60 j = oV A ST (gO A (Int32.ofNat j))) : (∃ e, e < 64 ∧ P1 A e ∧ (∀ e', e' < e → ¬ P1 A e') ∧ f_Linker_firstNamelessFix A = some (c100 e)) ∨ ((∀ e, e < 64 → ¬ P1 A e) ∧ f_Linker_firstNamelessFix A = some (-1)) := by
  have L4 := L_4
  refine srch_out (G := g_Linker_firstNamelessFix_2 A) (P := P1 A) ?_ (fun rec w hw => by rw [g_Linker_firstNamelessFix_2, if_pos (by rw [t_le]; omega)]) 1100 0 0 rfl (by omega) (by omega) (fun e he => by omega)
  intro rec o w hw ho
  rw [g_Linker_firstNamelessFix_2, if_neg (by rw [t_le]; omega)]
  have w2 : w.toNatClampNeg = o := by rw [t_n]; omega
  obtain ⟨n1, n2⟩ := (hF o ho).nfr
  have key := srch_in (g := g_Linker_firstNamelessFix_9 A w rec) (nf := (A 76 o).toInt.toNat) (bad := fun k => nd A o (A 80 (16 * o + k)) = none) (R := rec (w + 1)) (w1 := w) (by
    intro rec9 k x hx hk
    rw [g_Linker_firstNamelessFix_9, i_gd (by omega) (by omega), i_nm, w2, (hF o ho).nf]
    by_cases c : A 76 o ≤ x
    · rw [t_le] at c
      rw [if_pos (by rw [t_le]; exact c)]
      exact Or.inl ⟨by omega, rfl⟩
    · rw [if_neg c]
      rw [t_le] at c
      have x2 : x.toNatClampNeg = k := by rw [t_n]; omega
      have a := fn_t hF (f := 16 * o + k) (by omega)
      rw [i_gd (by omega) (by omega), i_nm, i_gd (by omega) (by omega), x2, (hF o ho).fn k (by omega), adf_c h h59 h60 hw ho a.1 a.2, i_b1]
      have b := oV_m1 hS h (y := nd A o (A 80 (16 * o + k))) (fun i e => nd_lt h ho e)
      by_cases q : nd A o (A 80 (16 * o + k)) = none
      · rw [if_pos (b.mpr q)]
        exact Or.inr (Or.inl ⟨by omega, q, rfl⟩)
      · rw [if_neg (fun z => q (b.mp z))]
        exact Or.inr (Or.inr ⟨by omega, q, rfl⟩)) (by omega) 1100 0 0 rfl (by omega) (by omega)
  have th : ∀ e, e < 16 → (P1 A (16 * o + e) ↔ e < (A 76 o).toInt.toNat ∧ nd A o (A 80 (16 * o + e)) = none) := fun e he => by
    unfold P1 there
    rw [show (16 * o + e) / 16 = o by omega, show (16 * o + e) % 16 = e by omega]
    refine ⟨?_, ?_⟩
    · rintro ⟨a, b⟩; exact ⟨by omega, b⟩
    · rintro ⟨a, b⟩; exact ⟨by omega, b⟩
  rcases key with ⟨e, p1, p2, p3, p4, p5⟩ | ⟨p1, p2⟩
  · exact Or.inl ⟨e, by omega, (th e (by omega)).mpr ⟨p2, p3⟩, fun e' q z => p4 e' (by omega) q ((th e' (by omega)).mp z).2, p5⟩
  · exact Or.inr ⟨fun e' q z => p1 e' (by omega) ((th e' q).mp z).1 ((th e' q).mp z).2, p2⟩
theorem t_r16 {w : Int32} (h : 0 ≤ w.toInt) : (w - w / 16 * 16).toInt = w.toInt % 16 := t_rem16 w h
theorem nam_m {B : sm_M} (h : ∀ o, o < 4 → NInv B o) (hF : ∀ o, o < 4 → FInv B o) (x : Int32) : ∀ (f e : Nat) (w : Int32), w.toInt = e → e ≤ 64 → 64 - e < f → (∀ e', e' < e → ¬ P1 B e') → (∃ e, e < 64 ∧ P1 B e ∧ (∀ e', e' < e → ¬ P1 B e') ∧ sm_lp1 (g_Model_refusal_30 B x) f w = some (-2000 - c100 e, B)) ∨ ((∀ e, e < 64 → ¬ P1 B e) ∧ sm_lp1 (g_Model_refusal_30 B x) f w = sm_lp2 (g_Model_refusal_95 x) 1100 B 0)
  | 0, e, w, _, _, h, _ => by omega
  | f + 1, e, w, hw, he, hf, hb => by
    have L64 : (64 : Int32).toInt = 64 := rfl
    rw [lp1_s, g_Model_refusal_30]
    by_cases c : e = 64
    · subst c
      rw [if_pos (by rw [t_le]; omega)]
      exact Or.inr ⟨hb, rfl⟩
    · have ei := t_inc (x := w) (by omega)
      have d1 := t_div16 w (by omega)
      have d2 := t_r16 (w := w) (by omega)
      have d3 : (w / 16).toNatClampNeg = e / 16 := by rw [t_n]; omega
      have d4 : w.toNatClampNeg = e := by rw [t_n]; omega
      have nx : ¬ P1 B e → (∃ e, e < 64 ∧ P1 B e ∧ (∀ e', e' < e → ¬ P1 B e') ∧ sm_lp1 (g_Model_refusal_30 B x) f (w + 1) = some (-2000 - c100 e, B)) ∨ ((∀ e, e < 64 → ¬ P1 B e) ∧ sm_lp1 (g_Model_refusal_30 B x) f (w + 1) = sm_lp2 (g_Model_refusal_95 x) 1100 B 0) := fun z =>
        nam_m h hF x f (e + 1) (w + 1) (by omega) (by omega) (by omega) (fun e' q => by
          by_cases q2 : e' = e
          · rw [q2]; exact z
          · exact hb e' (by omega))
      rw [if_neg (by rw [t_le]; omega), i_gd (by omega) (by omega), d3]
      by_cases c2 : B 76 (e / 16) ≤ w - w / 16 * 16
      · rw [if_pos c2]
        rw [t_le] at c2
        exact nx (fun z => by have := z.1; unfold there at this; omega)
      · rw [if_neg c2]
        rw [t_le] at c2
        have th : there B e := by unfold there; omega
        rw [i_gd (by omega) (by omega), d4, nee_m h (on := e / 16) (by omega) (by omega), i_b1]
        have b := oi_m1 (b := 0) (x := nd B (e / 16) (B 80 e)) (fun d q => by have := nd_lt h (by omega) q; omega)
        by_cases q : nd B (e / 16) (B 80 e) = none
        · rw [if_pos (b.mpr q)]
          refine Or.inl ⟨e, by omega, ⟨th, q⟩, hb, ?_⟩
          have q1 := of_t (w := w / 16) (i := e / 16) (by omega)
          have q2 := of_t (w := w - w / 16 * 16) (i := e % 16) (by omega)
          show some (_, B) = _
          rw [← q2, ← q1, c100]
          have z : ∀ a b : Int32, -2000 - 100 * a - b = -2000 - (100 * a + b) := fun a b => by grind
          rw [z]
        · rw [if_neg (fun z => q (b.mp z))]
          exact nx (fun z => q z.2)
