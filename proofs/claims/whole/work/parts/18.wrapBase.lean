/-! the law's own methods: a call, its answer kept in the long[1], its exceptions told as 1 and 2 -/
def sm_Cw (l : Launch) (y : MethodName) (ws : List Cond) (rm : Room) (v : sm_V) (av : List Value) (M : sm_M) (o : sm_O) (r : Int32) (M' : sm_M) (o' : sm_O) : Prop := Met l y ws rm (sm_Pc v M o av) (sm_Qi v M' o' r) 1 6 (sm_A v)
theorem sm_metW {l : Launch} {v : sm_V} {M : sm_M} {o : sm_O} {y : MethodName} {ws ws' : List Cond} {rm : Room} {Qc : Array Value → State → Outcome → State → Prop} {mc ms : Nat} {free : Addr → Prop} {cc : ByteArray} {nL : Nat} {ret : Option FieldType} {hh : List (Nat × Nat × Nat × Nat)} {av : List Value}
    (hy : plainName y.cls = true) (hw : ws = Cond.codeWith y cc nL ret hh :: ws') (hlen : (lg_sl av).length ≤ nL)
    (body : ∀ p e s m args below meth c, CallFix p m c cc nL s args ws y.cls → meth.sig.returnType = ret → meth.locks = false → c.exceptionTable.toList = tableOf hh → sm_K v s → sm_G v M o s s.heap [] → ∀ ls, lv_has ls nL (lv_args 0 av) →
      W p l e rm s m args below meth c s.heap [] 0 0 (MQ below Qc args s mc ms free) (F0 m 0 ls [])) : Met l y ws rm (sm_Pc v M o av) Qc mc ms free := by
  refine va_MetW (cc := cc) (maxL := nL) (ret := ret) (hh := hh) hy hw ?_
  intro p e s m args below meth c s₁ B hml hv
  obtain ⟨rfl, hP, hK⟩ := hv
  rw [lg_entry_eq]
  obtain ⟨m9, meth', c', hn9, h1, h2, -, -, h5, -⟩ := Cond.codeWith_spec (atoms_spec (ws := ws) B.pre _ (by rw [hw]; exact List.mem_cons_self))
  cases B.named.symm.trans hn9
  have X := Stand.of_body B
  have e1 : meth' = meth := Option.some.inj (h1.symm.trans B.method)
  subst e1
  have e2 : c' = c := Option.some.inj (h2.symm.trans X.code)
  subst e2
  exact body p e s m _ below meth' c' ⟨B.exec, B.bytes, hml, findClass_of_methodNamed B.named, atoms_spec (ws := ws) B.pre⟩ B.returns B.notSynchronized (by rw [← h5, table_eq]) hK ⟨hP, va_S.rf⟩ _ (lv_entry av hlen)
theorem sm_w_setO {v : sm_V} {M : sm_M} {o o' : sm_O} : (sm_w v M o).set 90 (sm_a v 90, .inl (v.2.2.2.2.1, 1, .inr (.inl o'))) = sm_w v M o' := by
  have key : ∀ k, k < 91 → k ≠ 90 → ∀ f, sm_E v f o (sm_sh k) = sm_E v f o' (sm_sh k) := by
    intro k hk hne f
    have h2 : (match sm_sh k with | .inl q => q.1 != 2 | .inr _ => true) = true := by
      have hall : (List.range 91).all (fun k => k == 90 || (match sm_sh k with | .inl q => q.1 != 2 | .inr _ => true)) = true := by decide +kernel
      have h3 := List.all_eq_true.mp hall k (List.mem_range.mpr hk)
      rw [Bool.or_eq_true] at h3
      rcases h3 with h3 | h3
      · exact absurd (beq_iff_eq.mp h3) hne
      · exact h3
    cases hs : sm_sh k with
    | inr q => rfl
    | inl q =>
      obtain ⟨t, n⟩ := q
      rw [hs] at h2
      match t, h2 with
      | 0, _ => rfl
      | 1, _ => rfl
      | 2, h => simp at h
      | t + 3, _ => rfl
  apply List.ext_getElem?
  intro i
  by_cases hl : i < 91
  · by_cases hi : i = 90
    · subst hi
      rw [List.getElem?_set_self (by rw [sm_w_len]; decide), sm_w_at (by decide)]
      rfl
    · rw [List.getElem?_set_ne (Ne.symm hi), sm_w_at hl, sm_w_at hl, key i hl hi]
  · have e1 : ((sm_w v M o).set 90 (sm_a v 90, .inl (v.2.2.2.2.1, 1, .inr (.inl o'))))[i]? = none := by
      rw [List.getElem?_eq_none]
      rw [List.length_set, sm_w_len]; omega
    have e2 : (sm_w v M o')[i]? = none := by
      rw [List.getElem?_eq_none]
      rw [sm_w_len]; omega
    rw [e1, e2]
section SMW
variable {p : Program} {l : Launch} {e : Env} {R : Room} {s : State} {m : MethodId} {args : Array Value} {below : List Frame} {meth : Method} {c : Code} {H : Heap} {locs : List Loc} {cells slots : Nat} {Q : State → Prop}
variable {cc : ByteArray} {nL pc : Nat} {ls : Array Slot} {rest : List Value} {Ts : List Cond} {own : String} {v : sm_V} {M : sm_M} {o : sm_O}
theorem sm_last {i : Int32} {x : Int64} (hC : CallFix p m c cc nL s args Ts own) (hK : sm_K v s) (hG : sm_G v M o s H locs) (hin : vp_in i 1) (hdg : decode cc pc = .ok (.lastore, 1))
    (kk : ∀ (H1 : Heap) (locs1 : List Loc), sm_G v M (vp_updL o i.toNatClampNeg x) s H1 locs1 → W p l e R s m args below meth c H1 locs1 cells slots Q (F0 m (pc + 1) ls rest)) : W p l e R s m args below meth c H locs cells slots Q (F0 m pc ls (.long x :: .int i :: .ref (sm_a v 90) :: rest)) := by
  refine va_last hC.1 hC.2.1 hK.1 hG.1 sm_D hG.2 90 2 (cA := v.2.2.2.2.1) (n := 1) (f := o) (by rw [sm_w_at (by decide)]; rfl) rfl hin hdg (fun H1 locs1 hP _ hS => ?_)
  rw [sm_w_setO] at hP
  exact kk H1 locs1 ⟨hP, hS⟩
theorem sm_iretC {r : Int32} (hC : CallFix p m c cc nL s args Ts own) (hr : meth.sig.returnType = some .int) (hlk : meth.locks = false) (hG : sm_G v M o s H locs) (hdg : decode cc pc = .ok (.ireturn, 1)) : W p l e R s m args below meth c H locs cells slots (MQ below (sm_Qi v M o r) args s cells slots (sm_A v)) (F0 m pc ls [.int r]) :=
  W.iret (v := r) hC.1 hC.2.1 hr (fun t ht hW => ⟨⟨r, (), rfl, rfl, by show va_P _ _ _ t.heap; rw [ht]; exact hG.1⟩, hG.2.F ht⟩) hG.2.2.2 hdg hlk
variable {st0 : List Value} {a : Array Value} {M' : sm_M} {o' : sm_O} {mc ms : Nat}
theorem sm_calliC {r : Int32} (hr : va_Run p l e R s m args below meth c H locs cells slots mc ms (F0 m pc ls st0) rest (sm_Qi v M' o' r a) (sm_A v)) (hG : sm_G v M o s H locs)
    (kk : ∀ (H1 : Heap) (locs1 : List Loc), sm_G v M' o' s H1 locs1 → W p l e R s m args below meth c H1 locs1 (cells + mc) (slots + ms) Q (F0 m (pc + 3) ls (.int r :: rest))) : W p l e R s m args below meth c H locs cells slots Q (F0 m pc ls st0) := by
  refine va_calli hr hG.2 (fun q _ h => h) (fun q h => h) (fun x u t H1 locs1 ht hvm hx hB hz hk hS => ?_)
  subst hx
  rw [ht] at hB
  exact kk H1 locs1 ⟨hB, hS⟩
/-- a call of a static method that has a table -/
theorem sm_runSW {y : MethodName} {bytes : ByteArray} {maxL index n : Nat} {ret : Option FieldType} {hh : List (Nat × Nat × Nat × Nat)} {rm : Room} {Pc : Array Value → State → Prop} {Qc : Array Value → State → Outcome → State → Prop} {free : Addr → Prop} {w0 : Cond} {As : List Value} {g : JFrame}
    (hC : CallFix p m c cc nL s args (w0 :: sm_AW) own) (hM : Met l y (Cond.codeWith y bytes maxL ret hh :: sm_AW) rm Pc Qc mc ms free) (hcd : Cond.codeWith y bytes maxL ret hh ∈ sm_AW) (hlk : Cond.methodLink own index y ∈ sm_AW) (hst : Cond.static y ∈ sm_AW) (hin : Cond.initialized y.cls ∈ sm_AW)
    (hrc : rm.cells = mc) (hrs : rm.slots = ms) (hd : y.cls ≠ "java/lang/invoke/MethodHandle" ∧ y.cls ≠ "java/lang/invoke/VarHandle" ∧ (parseMethodDescriptor y.desc).map (fun d => d.parameters.length) = some n) (hR : rm.frames + 1 ≤ R.frames ∧ 8 + (maxL + 11) + rm.locals ≤ R.locals) (hp : PreS s H Pc As)
    (hg : g.method = m) (hn : As.length = n) (hsize : g.locals.size = nL) (hstack : g.stack = As.reverse ++ rest) (hW : 2 * g.monitorRoom + (rest.map fun v => v.category).sum ≤ 8) (hdg : decode cc g.pc = .ok (.invokestatic index, 3)) (hf : cells + mc ≤ R.cells ∧ slots + ms ≤ R.slots) :
    va_Run p l e R s m args below meth c H locs cells slots mc ms g rest (Qc As.toArray) (free) := by
  obtain ⟨hx, hb, hml, ho, hts⟩ := hC
  have w : ∀ z ∈ sm_AW, z.before args s = true := fun z h => hts z (List.mem_cons_of_mem _ h)
  have hK : Back l R p e below s args y 3 8 (PreOf R mc ms Pc) (PostOf Qc mc ms free) := va_backW (hh := hh) (bytes := bytes) (maxL := maxL) (ret := ret) hM hp.1 hrc hrs hR.1 hR.2
    (pay_in hts (sm_good (sm_inC hcd))) List.mem_cons_self (fun a' U hW => word_at hW (Or.inl (by first | rfl | simp [Cond.onTables, Cond.keeps, Cond.steady])) (w _ hin))
  intro T hT X
  obtain ⟨mk, methM, cM, hnamed, hmethM, -, -, -, -, -, -, hsigM⟩ := Cond.codeWith_spec (w _ hcd)
  have hstatic : methM.isStatic = true := Cond.static_spec hnamed hmethM (w _ hst)
  obtain ⟨kP, hkP, -⟩ := className_of_methodNamed hnamed
  have hinitP : kP.init = .initialized := Cond.initialized_spec (findClass_of_methodNamed hnamed) hkP (w _ hin)
  have hlen : As.length = methM.sig.parameters.length := by
    have h2 := hd.2.2
    rw [hsigM] at h2
    exact hn.trans (Option.some.inj h2).symm
  obtain ⟨vm₁, X₁, hstep₁⟩ := X.invokestatic hx ho (w _ hlk) hnamed hmethM hstatic hkP hinitP ⟨hd.1, hd.2.1⟩ (g := g) hg (argsL := As) (rest := rest) hlen hstack (by rw [hb]; exact hdg)
  obtain ⟨v, ⟨U', l2, c2, s2⟩, X', ⟨g', mk', t, L, e1, e2, hq, h1, hL, h2, h3⟩, hsteps⟩ := hK m meth c ⟨T.setVm vm₁, locs, cells, slots⟩ { g with stack := rest } (.invokestatic index) mk As.toArray X₁ hg (hsize.trans hml.symm) (by rw [hb]; exact hdg) hW (X₁.named hnamed) ⟨hf.1, hf.2, hp.2 (T.setVm vm₁) hT X₁.warmed⟩
  dsimp only [Pt.U, Pt.locs, Pt.cells, Pt.slots] at X' e1 e2 h1 h2 h3 hsteps
  subst h1; subst h2; subst h3
  exact ⟨v, (T.setVm vm₁).calling g' mk' As.toArray, t, U', L, hT, X', hL, e1, e2, hq, fun target h => hstep₁ _ fun acts => by rw [doInvoke_state]; exact hsteps.trans h⟩
end SMW
theorem sm_in0 : vp_in 0 1 := by
  unfold vp_in
  decide

theorem aw_289 : (Jvm.Cond.methodLink "LinkMillLaw" (7 : Nat) ({ cls := "LinkMill", name := "put", desc := "(IIIII)I" } : Jvm.MethodName)) ∈ sm_AW := sm_awi 289 (by decide +kernel) (by decide +kernel)
theorem aw_290 : (Jvm.Cond.instanceMethod ({ cls := "LinkMill", name := "put", desc := "(IIIII)I" } : Jvm.MethodName)) ∈ sm_AW := sm_awi 290 (by decide +kernel) (by decide +kernel)
theorem aw_291 : (Jvm.Cond.selects "LinkMill" ({ cls := "LinkMill", name := "put", desc := "(IIIII)I" } : Jvm.MethodName) ({ cls := "LinkMill", name := "put", desc := "(IIIII)I" } : Jvm.MethodName)) ∈ sm_AW := sm_awi 291 (by decide +kernel) (by decide +kernel)
theorem aw_292 : (Jvm.Cond.code ({ cls := "LinkMill", name := "put", desc := "(IIIII)I" } : Jvm.MethodName) prog_1_method_2_code (7 : Nat) (Option.some Jvm.ClassFile.FieldType.int)) ∈ sm_AW := sm_awi 292 (by decide +kernel) (by decide +kernel)
theorem aw_287 : (Jvm.Cond.classLink "LinkMillLaw" (13 : Nat) "java/lang/IllegalArgumentException") ∈ sm_AW := sm_awi 287 (by decide +kernel) (by decide +kernel)
theorem aw_288 : (Jvm.Cond.classLink "LinkMillLaw" (15 : Nat) "java/lang/IllegalStateException") ∈ sm_AW := sm_awi 288 (by decide +kernel) (by decide +kernel)
theorem aw_401 : (Jvm.Cond.methodLink "LinkMillLaw" (17 : Nat) ({ cls := "LinkMill", name := "word", desc := "(II)I" } : Jvm.MethodName)) ∈ sm_AW := sm_awi 401 (by decide +kernel) (by decide +kernel)
theorem aw_402 : (Jvm.Cond.instanceMethod ({ cls := "LinkMill", name := "word", desc := "(II)I" } : Jvm.MethodName)) ∈ sm_AW := sm_awi 402 (by decide +kernel) (by decide +kernel)
theorem aw_403 : (Jvm.Cond.selects "LinkMill" ({ cls := "LinkMill", name := "word", desc := "(II)I" } : Jvm.MethodName) ({ cls := "LinkMill", name := "word", desc := "(II)I" } : Jvm.MethodName)) ∈ sm_AW := sm_awi 403 (by decide +kernel) (by decide +kernel)
theorem aw_404 : (Jvm.Cond.code ({ cls := "LinkMill", name := "word", desc := "(II)I" } : Jvm.MethodName) prog_1_method_3_code (4 : Nat) (Option.some Jvm.ClassFile.FieldType.int)) ∈ sm_AW := sm_awi 404 (by decide +kernel) (by decide +kernel)
theorem aw_408 : (Jvm.Cond.methodLink "LinkMillLaw" (21 : Nat) ({ cls := "LinkMill", name := "define", desc := "(IIIIZ)I" } : Jvm.MethodName)) ∈ sm_AW := sm_awi 408 (by decide +kernel) (by decide +kernel)
theorem aw_409 : (Jvm.Cond.instanceMethod ({ cls := "LinkMill", name := "define", desc := "(IIIIZ)I" } : Jvm.MethodName)) ∈ sm_AW := sm_awi 409 (by decide +kernel) (by decide +kernel)
theorem aw_410 : (Jvm.Cond.selects "LinkMill" ({ cls := "LinkMill", name := "define", desc := "(IIIIZ)I" } : Jvm.MethodName) ({ cls := "LinkMill", name := "define", desc := "(IIIIZ)I" } : Jvm.MethodName)) ∈ sm_AW := sm_awi 410 (by decide +kernel) (by decide +kernel)
theorem aw_411 : (Jvm.Cond.code ({ cls := "LinkMill", name := "define", desc := "(IIIIZ)I" } : Jvm.MethodName) prog_1_method_4_code (7 : Nat) (Option.some Jvm.ClassFile.FieldType.int)) ∈ sm_AW := sm_awi 411 (by decide +kernel) (by decide +kernel)
theorem aw_426 : (Jvm.Cond.methodLink "LinkMillLaw" (25 : Nat) ({ cls := "LinkMill", name := "fix", desc := "(IIIIII)I" } : Jvm.MethodName)) ∈ sm_AW := sm_awi 426 (by decide +kernel) (by decide +kernel)
theorem aw_427 : (Jvm.Cond.instanceMethod ({ cls := "LinkMill", name := "fix", desc := "(IIIIII)I" } : Jvm.MethodName)) ∈ sm_AW := sm_awi 427 (by decide +kernel) (by decide +kernel)
theorem aw_428 : (Jvm.Cond.selects "LinkMill" ({ cls := "LinkMill", name := "fix", desc := "(IIIIII)I" } : Jvm.MethodName) ({ cls := "LinkMill", name := "fix", desc := "(IIIIII)I" } : Jvm.MethodName)) ∈ sm_AW := sm_awi 428 (by decide +kernel) (by decide +kernel)
theorem aw_429 : (Jvm.Cond.code ({ cls := "LinkMill", name := "fix", desc := "(IIIIII)I" } : Jvm.MethodName) prog_1_method_5_code (8 : Nat) (Option.some Jvm.ClassFile.FieldType.int)) ∈ sm_AW := sm_awi 429 (by decide +kernel) (by decide +kernel)
theorem aw_437 : (Jvm.Cond.methodLink "LinkMillLaw" (29 : Nat) ({ cls := "LinkMill", name := "clear", desc := "(I)Z" } : Jvm.MethodName)) ∈ sm_AW := sm_awi 437 (by decide +kernel) (by decide +kernel)
theorem aw_438 : (Jvm.Cond.instanceMethod ({ cls := "LinkMill", name := "clear", desc := "(I)Z" } : Jvm.MethodName)) ∈ sm_AW := sm_awi 438 (by decide +kernel) (by decide +kernel)
theorem aw_439 : (Jvm.Cond.selects "LinkMill" ({ cls := "LinkMill", name := "clear", desc := "(I)Z" } : Jvm.MethodName) ({ cls := "LinkMill", name := "clear", desc := "(I)Z" } : Jvm.MethodName)) ∈ sm_AW := sm_awi 439 (by decide +kernel) (by decide +kernel)
theorem aw_440 : (Jvm.Cond.code ({ cls := "LinkMill", name := "clear", desc := "(I)Z" } : Jvm.MethodName) prog_1_method_6_code (2 : Nat) (Option.some Jvm.ClassFile.FieldType.boolean)) ∈ sm_AW := sm_awi 440 (by decide +kernel) (by decide +kernel)
theorem aw_448 : (Jvm.Cond.methodLink "LinkMillLaw" (33 : Nat) ({ cls := "LinkMill", name := "link", desc := "(II)I" } : Jvm.MethodName)) ∈ sm_AW := sm_awi 448 (by decide +kernel) (by decide +kernel)
theorem aw_449 : (Jvm.Cond.instanceMethod ({ cls := "LinkMill", name := "link", desc := "(II)I" } : Jvm.MethodName)) ∈ sm_AW := sm_awi 449 (by decide +kernel) (by decide +kernel)
theorem aw_450 : (Jvm.Cond.selects "LinkMill" ({ cls := "LinkMill", name := "link", desc := "(II)I" } : Jvm.MethodName) ({ cls := "LinkMill", name := "link", desc := "(II)I" } : Jvm.MethodName)) ∈ sm_AW := sm_awi 450 (by decide +kernel) (by decide +kernel)
theorem aw_451 : (Jvm.Cond.code ({ cls := "LinkMill", name := "link", desc := "(II)I" } : Jvm.MethodName) prog_1_method_7_code (3 : Nat) (Option.some Jvm.ClassFile.FieldType.int)) ∈ sm_AW := sm_awi 451 (by decide +kernel) (by decide +kernel)
theorem aw_565 : (Jvm.Cond.methodLink "LinkMillLaw" (36 : Nat) ({ cls := "LinkMill", name := "alter", desc := "(II)Z" } : Jvm.MethodName)) ∈ sm_AW := sm_awi 565 (by decide +kernel) (by decide +kernel)
theorem aw_566 : (Jvm.Cond.instanceMethod ({ cls := "LinkMill", name := "alter", desc := "(II)Z" } : Jvm.MethodName)) ∈ sm_AW := sm_awi 566 (by decide +kernel) (by decide +kernel)
theorem aw_567 : (Jvm.Cond.selects "LinkMill" ({ cls := "LinkMill", name := "alter", desc := "(II)Z" } : Jvm.MethodName) ({ cls := "LinkMill", name := "alter", desc := "(II)Z" } : Jvm.MethodName)) ∈ sm_AW := sm_awi 567 (by decide +kernel) (by decide +kernel)
theorem aw_568 : (Jvm.Cond.code ({ cls := "LinkMill", name := "alter", desc := "(II)Z" } : Jvm.MethodName) prog_1_method_9_code (3 : Nat) (Option.some Jvm.ClassFile.FieldType.boolean)) ∈ sm_AW := sm_awi 568 (by decide +kernel) (by decide +kernel)
theorem aw_572 : (Jvm.Cond.methodLink "LinkMillLaw" (40 : Nat) ({ cls := "LinkMill", name := "stretch", desc := "(I)I" } : Jvm.MethodName)) ∈ sm_AW := sm_awi 572 (by decide +kernel) (by decide +kernel)
theorem aw_573 : (Jvm.Cond.instanceMethod ({ cls := "LinkMill", name := "stretch", desc := "(I)I" } : Jvm.MethodName)) ∈ sm_AW := sm_awi 573 (by decide +kernel) (by decide +kernel)
theorem aw_574 : (Jvm.Cond.selects "LinkMill" ({ cls := "LinkMill", name := "stretch", desc := "(I)I" } : Jvm.MethodName) ({ cls := "LinkMill", name := "stretch", desc := "(I)I" } : Jvm.MethodName)) ∈ sm_AW := sm_awi 574 (by decide +kernel) (by decide +kernel)
theorem aw_575 : (Jvm.Cond.code ({ cls := "LinkMill", name := "stretch", desc := "(I)I" } : Jvm.MethodName) prog_1_method_10_code (4 : Nat) (Option.some Jvm.ClassFile.FieldType.int)) ∈ sm_AW := sm_awi 575 (by decide +kernel) (by decide +kernel)
theorem aw_581 : (Jvm.Cond.methodLink "LinkMillLaw" (44 : Nat) ({ cls := "LinkMill", name := "run", desc := "(I)I" } : Jvm.MethodName)) ∈ sm_AW := sm_awi 581 (by decide +kernel) (by decide +kernel)
theorem aw_582 : (Jvm.Cond.instanceMethod ({ cls := "LinkMill", name := "run", desc := "(I)I" } : Jvm.MethodName)) ∈ sm_AW := sm_awi 582 (by decide +kernel) (by decide +kernel)
theorem aw_583 : (Jvm.Cond.selects "LinkMill" ({ cls := "LinkMill", name := "run", desc := "(I)I" } : Jvm.MethodName) ({ cls := "LinkMill", name := "run", desc := "(I)I" } : Jvm.MethodName)) ∈ sm_AW := sm_awi 583 (by decide +kernel) (by decide +kernel)
theorem aw_584 : (Jvm.Cond.code ({ cls := "LinkMill", name := "run", desc := "(I)I" } : Jvm.MethodName) prog_1_method_12_code (2 : Nat) (Option.some Jvm.ClassFile.FieldType.int)) ∈ sm_AW := sm_awi 584 (by decide +kernel) (by decide +kernel)
theorem aw_661 : (Jvm.Cond.methodLink "LinkMillLaw" (47 : Nat) ({ cls := "LinkMill", name := "memory", desc := "(I)I" } : Jvm.MethodName)) ∈ sm_AW := sm_awi 661 (by decide +kernel) (by decide +kernel)
theorem aw_662 : (Jvm.Cond.instanceMethod ({ cls := "LinkMill", name := "memory", desc := "(I)I" } : Jvm.MethodName)) ∈ sm_AW := sm_awi 662 (by decide +kernel) (by decide +kernel)
theorem aw_663 : (Jvm.Cond.selects "LinkMill" ({ cls := "LinkMill", name := "memory", desc := "(I)I" } : Jvm.MethodName) ({ cls := "LinkMill", name := "memory", desc := "(I)I" } : Jvm.MethodName)) ∈ sm_AW := sm_awi 663 (by decide +kernel) (by decide +kernel)
theorem aw_664 : (Jvm.Cond.code ({ cls := "LinkMill", name := "memory", desc := "(I)I" } : Jvm.MethodName) prog_1_method_15_code (3 : Nat) (Option.some Jvm.ClassFile.FieldType.int)) ∈ sm_AW := sm_awi 664 (by decide +kernel) (by decide +kernel)
theorem aw_660 : (Jvm.Cond.classLink "LinkMillLaw" (50 : Nat) "java/lang/IndexOutOfBoundsException") ∈ sm_AW := sm_awi 660 (by decide +kernel) (by decide +kernel)
theorem d_Law_put_0 : decode b_Law_put 0 = .ok (.aload 6, 2) := by decide +kernel
theorem d_Law_put_2 : decode b_Law_put 2 = .ok (.iconst 0, 1) := by decide +kernel
theorem d_Law_put_3 : decode b_Law_put 3 = .ok (.aload_n 0, 1) := by decide +kernel
theorem d_Law_put_4 : decode b_Law_put 4 = .ok (.iload_n 1, 1) := by decide +kernel
theorem d_Law_put_5 : decode b_Law_put 5 = .ok (.iload_n 2, 1) := by decide +kernel
theorem d_Law_put_6 : decode b_Law_put 6 = .ok (.iload_n 3, 1) := by decide +kernel
theorem d_Law_put_7 : decode b_Law_put 7 = .ok (.iload 4, 2) := by decide +kernel
theorem d_Law_put_9 : decode b_Law_put 9 = .ok (.iload 5, 2) := by decide +kernel
theorem d_Law_put_11 : decode b_Law_put 11 = .ok (.invokevirtual 7, 3) := by decide +kernel
theorem d_Law_put_14 : decode b_Law_put 14 = .ok (.i2l, 1) := by decide +kernel
theorem d_Law_put_15 : decode b_Law_put 15 = .ok (.lastore, 1) := by decide +kernel
theorem d_Law_put_16 : decode b_Law_put 16 = .ok (.goto 11, 3) := by decide +kernel
theorem d_Law_put_19 : decode b_Law_put 19 = .ok (.astore 7, 2) := by decide +kernel
theorem d_Law_put_21 : decode b_Law_put 21 = .ok (.iconst 1, 1) := by decide +kernel
theorem d_Law_put_22 : decode b_Law_put 22 = .ok (.ireturn, 1) := by decide +kernel
theorem d_Law_put_23 : decode b_Law_put 23 = .ok (.astore 7, 2) := by decide +kernel
theorem d_Law_put_25 : decode b_Law_put 25 = .ok (.iconst 2, 1) := by decide +kernel
theorem d_Law_put_26 : decode b_Law_put 26 = .ok (.ireturn, 1) := by decide +kernel
theorem d_Law_put_27 : decode b_Law_put 27 = .ok (.iconst 0, 1) := by decide +kernel
theorem d_Law_put_28 : decode b_Law_put 28 = .ok (.ireturn, 1) := by decide +kernel
theorem d_Law_word_0 : decode b_Law_word 0 = .ok (.aload_n 3, 1) := by decide +kernel
theorem d_Law_word_1 : decode b_Law_word 1 = .ok (.iconst 0, 1) := by decide +kernel
theorem d_Law_word_2 : decode b_Law_word 2 = .ok (.aload_n 0, 1) := by decide +kernel
theorem d_Law_word_3 : decode b_Law_word 3 = .ok (.iload_n 1, 1) := by decide +kernel
theorem d_Law_word_4 : decode b_Law_word 4 = .ok (.iload_n 2, 1) := by decide +kernel
theorem d_Law_word_5 : decode b_Law_word 5 = .ok (.invokevirtual 17, 3) := by decide +kernel
theorem d_Law_word_8 : decode b_Law_word 8 = .ok (.i2l, 1) := by decide +kernel
theorem d_Law_word_9 : decode b_Law_word 9 = .ok (.lastore, 1) := by decide +kernel
theorem d_Law_word_10 : decode b_Law_word 10 = .ok (.goto 11, 3) := by decide +kernel
theorem d_Law_word_13 : decode b_Law_word 13 = .ok (.astore 4, 2) := by decide +kernel
theorem d_Law_word_15 : decode b_Law_word 15 = .ok (.iconst 1, 1) := by decide +kernel
theorem d_Law_word_16 : decode b_Law_word 16 = .ok (.ireturn, 1) := by decide +kernel
theorem d_Law_word_17 : decode b_Law_word 17 = .ok (.astore 4, 2) := by decide +kernel
theorem d_Law_word_19 : decode b_Law_word 19 = .ok (.iconst 2, 1) := by decide +kernel
theorem d_Law_word_20 : decode b_Law_word 20 = .ok (.ireturn, 1) := by decide +kernel
theorem d_Law_word_21 : decode b_Law_word 21 = .ok (.iconst 0, 1) := by decide +kernel
theorem d_Law_word_22 : decode b_Law_word 22 = .ok (.ireturn, 1) := by decide +kernel
theorem d_Law_define_0 : decode b_Law_define 0 = .ok (.aload 6, 2) := by decide +kernel
theorem d_Law_define_2 : decode b_Law_define 2 = .ok (.iconst 0, 1) := by decide +kernel
theorem d_Law_define_3 : decode b_Law_define 3 = .ok (.aload_n 0, 1) := by decide +kernel
theorem d_Law_define_4 : decode b_Law_define 4 = .ok (.iload_n 1, 1) := by decide +kernel
theorem d_Law_define_5 : decode b_Law_define 5 = .ok (.iload_n 2, 1) := by decide +kernel
theorem d_Law_define_6 : decode b_Law_define 6 = .ok (.iload_n 3, 1) := by decide +kernel
theorem d_Law_define_7 : decode b_Law_define 7 = .ok (.iload 4, 2) := by decide +kernel
theorem d_Law_define_9 : decode b_Law_define 9 = .ok (.iload 5, 2) := by decide +kernel
theorem d_Law_define_11 : decode b_Law_define 11 = .ok (.invokevirtual 21, 3) := by decide +kernel
theorem d_Law_define_14 : decode b_Law_define 14 = .ok (.i2l, 1) := by decide +kernel
theorem d_Law_define_15 : decode b_Law_define 15 = .ok (.lastore, 1) := by decide +kernel
theorem d_Law_define_16 : decode b_Law_define 16 = .ok (.goto 11, 3) := by decide +kernel
theorem d_Law_define_19 : decode b_Law_define 19 = .ok (.astore 7, 2) := by decide +kernel
theorem d_Law_define_21 : decode b_Law_define 21 = .ok (.iconst 1, 1) := by decide +kernel
theorem d_Law_define_22 : decode b_Law_define 22 = .ok (.ireturn, 1) := by decide +kernel
theorem d_Law_define_23 : decode b_Law_define 23 = .ok (.astore 7, 2) := by decide +kernel
theorem d_Law_define_25 : decode b_Law_define 25 = .ok (.iconst 2, 1) := by decide +kernel
theorem d_Law_define_26 : decode b_Law_define 26 = .ok (.ireturn, 1) := by decide +kernel
theorem d_Law_define_27 : decode b_Law_define 27 = .ok (.iconst 0, 1) := by decide +kernel
theorem d_Law_define_28 : decode b_Law_define 28 = .ok (.ireturn, 1) := by decide +kernel
theorem d_Law_fix_0 : decode b_Law_fix 0 = .ok (.aload 7, 2) := by decide +kernel
theorem d_Law_fix_2 : decode b_Law_fix 2 = .ok (.iconst 0, 1) := by decide +kernel
theorem d_Law_fix_3 : decode b_Law_fix 3 = .ok (.aload_n 0, 1) := by decide +kernel
theorem d_Law_fix_4 : decode b_Law_fix 4 = .ok (.iload_n 1, 1) := by decide +kernel
theorem d_Law_fix_5 : decode b_Law_fix 5 = .ok (.iload_n 2, 1) := by decide +kernel
theorem d_Law_fix_6 : decode b_Law_fix 6 = .ok (.iload_n 3, 1) := by decide +kernel
theorem d_Law_fix_7 : decode b_Law_fix 7 = .ok (.iload 4, 2) := by decide +kernel
theorem d_Law_fix_9 : decode b_Law_fix 9 = .ok (.iload 5, 2) := by decide +kernel
theorem d_Law_fix_11 : decode b_Law_fix 11 = .ok (.iload 6, 2) := by decide +kernel
theorem d_Law_fix_13 : decode b_Law_fix 13 = .ok (.invokevirtual 25, 3) := by decide +kernel
theorem d_Law_fix_16 : decode b_Law_fix 16 = .ok (.i2l, 1) := by decide +kernel
theorem d_Law_fix_17 : decode b_Law_fix 17 = .ok (.lastore, 1) := by decide +kernel
theorem d_Law_fix_18 : decode b_Law_fix 18 = .ok (.goto 11, 3) := by decide +kernel
theorem d_Law_fix_21 : decode b_Law_fix 21 = .ok (.astore 8, 2) := by decide +kernel
theorem d_Law_fix_23 : decode b_Law_fix 23 = .ok (.iconst 1, 1) := by decide +kernel
theorem d_Law_fix_24 : decode b_Law_fix 24 = .ok (.ireturn, 1) := by decide +kernel
theorem d_Law_fix_25 : decode b_Law_fix 25 = .ok (.astore 8, 2) := by decide +kernel
theorem d_Law_fix_27 : decode b_Law_fix 27 = .ok (.iconst 2, 1) := by decide +kernel
theorem d_Law_fix_28 : decode b_Law_fix 28 = .ok (.ireturn, 1) := by decide +kernel
theorem d_Law_fix_29 : decode b_Law_fix 29 = .ok (.iconst 0, 1) := by decide +kernel
theorem d_Law_fix_30 : decode b_Law_fix 30 = .ok (.ireturn, 1) := by decide +kernel
theorem d_Law_clear_0 : decode b_Law_clear 0 = .ok (.aload_n 2, 1) := by decide +kernel
theorem d_Law_clear_1 : decode b_Law_clear 1 = .ok (.iconst 0, 1) := by decide +kernel
theorem d_Law_clear_2 : decode b_Law_clear 2 = .ok (.aload_n 0, 1) := by decide +kernel
theorem d_Law_clear_3 : decode b_Law_clear 3 = .ok (.iload_n 1, 1) := by decide +kernel
theorem d_Law_clear_4 : decode b_Law_clear 4 = .ok (.invokevirtual 29, 3) := by decide +kernel
theorem d_Law_clear_7 : decode b_Law_clear 7 = .ok (.ifCond .eq 7, 3) := by decide +kernel
theorem d_Law_clear_10 : decode b_Law_clear 10 = .ok (.lconst 1, 1) := by decide +kernel
theorem d_Law_clear_11 : decode b_Law_clear 11 = .ok (.goto 4, 3) := by decide +kernel
theorem d_Law_clear_14 : decode b_Law_clear 14 = .ok (.lconst 0, 1) := by decide +kernel
theorem d_Law_clear_15 : decode b_Law_clear 15 = .ok (.lastore, 1) := by decide +kernel
theorem d_Law_clear_16 : decode b_Law_clear 16 = .ok (.goto 6, 3) := by decide +kernel
theorem d_Law_clear_19 : decode b_Law_clear 19 = .ok (.astore_n 3, 1) := by decide +kernel
theorem d_Law_clear_20 : decode b_Law_clear 20 = .ok (.iconst 1, 1) := by decide +kernel
theorem d_Law_clear_21 : decode b_Law_clear 21 = .ok (.ireturn, 1) := by decide +kernel
theorem d_Law_clear_22 : decode b_Law_clear 22 = .ok (.iconst 0, 1) := by decide +kernel
theorem d_Law_clear_23 : decode b_Law_clear 23 = .ok (.ireturn, 1) := by decide +kernel
theorem d_Law_link_0 : decode b_Law_link 0 = .ok (.aload_n 3, 1) := by decide +kernel
theorem d_Law_link_1 : decode b_Law_link 1 = .ok (.iconst 0, 1) := by decide +kernel
theorem d_Law_link_2 : decode b_Law_link 2 = .ok (.aload_n 0, 1) := by decide +kernel
theorem d_Law_link_3 : decode b_Law_link 3 = .ok (.iload_n 1, 1) := by decide +kernel
theorem d_Law_link_4 : decode b_Law_link 4 = .ok (.iload_n 2, 1) := by decide +kernel
theorem d_Law_link_5 : decode b_Law_link 5 = .ok (.invokevirtual 33, 3) := by decide +kernel
theorem d_Law_link_8 : decode b_Law_link 8 = .ok (.i2l, 1) := by decide +kernel
theorem d_Law_link_9 : decode b_Law_link 9 = .ok (.lastore, 1) := by decide +kernel
theorem d_Law_link_10 : decode b_Law_link 10 = .ok (.goto 7, 3) := by decide +kernel
theorem d_Law_link_13 : decode b_Law_link 13 = .ok (.astore 4, 2) := by decide +kernel
theorem d_Law_link_15 : decode b_Law_link 15 = .ok (.iconst 1, 1) := by decide +kernel
theorem d_Law_link_16 : decode b_Law_link 16 = .ok (.ireturn, 1) := by decide +kernel
theorem d_Law_link_17 : decode b_Law_link 17 = .ok (.iconst 0, 1) := by decide +kernel
theorem d_Law_link_18 : decode b_Law_link 18 = .ok (.ireturn, 1) := by decide +kernel
theorem d_Law_alter_0 : decode b_Law_alter 0 = .ok (.aload_n 3, 1) := by decide +kernel
theorem d_Law_alter_1 : decode b_Law_alter 1 = .ok (.iconst 0, 1) := by decide +kernel
theorem d_Law_alter_2 : decode b_Law_alter 2 = .ok (.aload_n 0, 1) := by decide +kernel
theorem d_Law_alter_3 : decode b_Law_alter 3 = .ok (.iload_n 1, 1) := by decide +kernel
theorem d_Law_alter_4 : decode b_Law_alter 4 = .ok (.iload_n 2, 1) := by decide +kernel
theorem d_Law_alter_5 : decode b_Law_alter 5 = .ok (.invokevirtual 36, 3) := by decide +kernel
theorem d_Law_alter_8 : decode b_Law_alter 8 = .ok (.ifCond .eq 7, 3) := by decide +kernel
theorem d_Law_alter_11 : decode b_Law_alter 11 = .ok (.lconst 1, 1) := by decide +kernel
theorem d_Law_alter_12 : decode b_Law_alter 12 = .ok (.goto 4, 3) := by decide +kernel
theorem d_Law_alter_15 : decode b_Law_alter 15 = .ok (.lconst 0, 1) := by decide +kernel
theorem d_Law_alter_16 : decode b_Law_alter 16 = .ok (.lastore, 1) := by decide +kernel
theorem d_Law_alter_17 : decode b_Law_alter 17 = .ok (.goto 7, 3) := by decide +kernel
theorem d_Law_alter_20 : decode b_Law_alter 20 = .ok (.astore 4, 2) := by decide +kernel
theorem d_Law_alter_22 : decode b_Law_alter 22 = .ok (.iconst 1, 1) := by decide +kernel
theorem d_Law_alter_23 : decode b_Law_alter 23 = .ok (.ireturn, 1) := by decide +kernel
theorem d_Law_alter_24 : decode b_Law_alter 24 = .ok (.iconst 0, 1) := by decide +kernel
theorem d_Law_alter_25 : decode b_Law_alter 25 = .ok (.ireturn, 1) := by decide +kernel
theorem d_Law_stretch_0 : decode b_Law_stretch 0 = .ok (.aload_n 2, 1) := by decide +kernel
theorem d_Law_stretch_1 : decode b_Law_stretch 1 = .ok (.iconst 0, 1) := by decide +kernel
theorem d_Law_stretch_2 : decode b_Law_stretch 2 = .ok (.aload_n 0, 1) := by decide +kernel
theorem d_Law_stretch_3 : decode b_Law_stretch 3 = .ok (.iload_n 1, 1) := by decide +kernel
theorem d_Law_stretch_4 : decode b_Law_stretch 4 = .ok (.invokevirtual 40, 3) := by decide +kernel
theorem d_Law_stretch_7 : decode b_Law_stretch 7 = .ok (.i2l, 1) := by decide +kernel
theorem d_Law_stretch_8 : decode b_Law_stretch 8 = .ok (.lastore, 1) := by decide +kernel
theorem d_Law_stretch_9 : decode b_Law_stretch 9 = .ok (.goto 6, 3) := by decide +kernel
theorem d_Law_stretch_12 : decode b_Law_stretch 12 = .ok (.astore_n 3, 1) := by decide +kernel
theorem d_Law_stretch_13 : decode b_Law_stretch 13 = .ok (.iconst 1, 1) := by decide +kernel
theorem d_Law_stretch_14 : decode b_Law_stretch 14 = .ok (.ireturn, 1) := by decide +kernel
theorem d_Law_stretch_15 : decode b_Law_stretch 15 = .ok (.iconst 0, 1) := by decide +kernel
theorem d_Law_stretch_16 : decode b_Law_stretch 16 = .ok (.ireturn, 1) := by decide +kernel
theorem d_Law_run_0 : decode b_Law_run 0 = .ok (.aload_n 2, 1) := by decide +kernel
theorem d_Law_run_1 : decode b_Law_run 1 = .ok (.iconst 0, 1) := by decide +kernel
theorem d_Law_run_2 : decode b_Law_run 2 = .ok (.aload_n 0, 1) := by decide +kernel
theorem d_Law_run_3 : decode b_Law_run 3 = .ok (.iload_n 1, 1) := by decide +kernel
theorem d_Law_run_4 : decode b_Law_run 4 = .ok (.invokevirtual 44, 3) := by decide +kernel
theorem d_Law_run_7 : decode b_Law_run 7 = .ok (.i2l, 1) := by decide +kernel
theorem d_Law_run_8 : decode b_Law_run 8 = .ok (.lastore, 1) := by decide +kernel
theorem d_Law_run_9 : decode b_Law_run 9 = .ok (.goto 9, 3) := by decide +kernel
theorem d_Law_run_12 : decode b_Law_run 12 = .ok (.astore_n 3, 1) := by decide +kernel
theorem d_Law_run_13 : decode b_Law_run 13 = .ok (.iconst 1, 1) := by decide +kernel
theorem d_Law_run_14 : decode b_Law_run 14 = .ok (.ireturn, 1) := by decide +kernel
theorem d_Law_run_15 : decode b_Law_run 15 = .ok (.astore_n 3, 1) := by decide +kernel
theorem d_Law_run_16 : decode b_Law_run 16 = .ok (.iconst 2, 1) := by decide +kernel
theorem d_Law_run_17 : decode b_Law_run 17 = .ok (.ireturn, 1) := by decide +kernel
theorem d_Law_run_18 : decode b_Law_run 18 = .ok (.iconst 0, 1) := by decide +kernel
theorem d_Law_run_19 : decode b_Law_run 19 = .ok (.ireturn, 1) := by decide +kernel
theorem d_Law_memory_0 : decode b_Law_memory 0 = .ok (.aload_n 2, 1) := by decide +kernel
theorem d_Law_memory_1 : decode b_Law_memory 1 = .ok (.iconst 0, 1) := by decide +kernel
theorem d_Law_memory_2 : decode b_Law_memory 2 = .ok (.aload_n 0, 1) := by decide +kernel
theorem d_Law_memory_3 : decode b_Law_memory 3 = .ok (.iload_n 1, 1) := by decide +kernel
theorem d_Law_memory_4 : decode b_Law_memory 4 = .ok (.invokevirtual 47, 3) := by decide +kernel
theorem d_Law_memory_7 : decode b_Law_memory 7 = .ok (.i2l, 1) := by decide +kernel
theorem d_Law_memory_8 : decode b_Law_memory 8 = .ok (.lastore, 1) := by decide +kernel
theorem d_Law_memory_9 : decode b_Law_memory 9 = .ok (.goto 6, 3) := by decide +kernel
theorem d_Law_memory_12 : decode b_Law_memory 12 = .ok (.astore_n 3, 1) := by decide +kernel
theorem d_Law_memory_13 : decode b_Law_memory 13 = .ok (.iconst 1, 1) := by decide +kernel
theorem d_Law_memory_14 : decode b_Law_memory 14 = .ok (.ireturn, 1) := by decide +kernel
theorem d_Law_memory_15 : decode b_Law_memory 15 = .ok (.iconst 0, 1) := by decide +kernel
theorem d_Law_memory_16 : decode b_Law_memory 16 = .ok (.ireturn, 1) := by decide +kernel
