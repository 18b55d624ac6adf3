/-! a call whose callee may throw, in a method that catches it -/
/-- what the search through a frame's table gives, and the tables that it leaves -/
def sm_Fd (e : Env) (s : State) (f : JFrame) (a : Addr) (h : Handler) (vm' : Vm) : Prop :=
  ∀ (Q : Handler → Pre) (E : CtlPost) (d : Bool) (acts : List Action), wp (findHandler f a) Q E e d acts s ↔ Q h d acts (s.setVm vm')
theorem sm_go {e : Env} {s : State} {f : JFrame} {a : Addr} {Q : Handler → Pre} {E : CtlPost} {d : Bool} {acts : List Action} {x : ExceptionTableEntry} {t : List ExceptionTableEntry} {cT : ClassId} {cell : Cell} (hx : covers x f.pc = true) (h0 : x.catchType ≠ 0)
    (hl : s.vm.ClassLinks e.platform f.method.cls x.catchType cT) (hcell : s.heap[a]? = some cell) (hobj : ∀ k, cell.vm ≠ .statics k) (hk : ∃ k, s.vm.classes[cell.cls]? = some k) (hc : ∃ k, s.vm.classes[cT]? = some k) :
    wp (findHandler.go f a (x :: t)) Q E e d acts s ↔ (if s.vm.assignable cell.cls cT = true then Q (.found x.handlerPc) d acts (s.setVm (s.vm.noted f.method.cls x.catchType (.cls cT))) else wp (findHandler.go f a t) Q E e d acts (s.setVm (s.vm.noted f.method.cls x.catchType (.cls cT)))) := by
  simp only [covers] at hx
  obtain ⟨ha, ht⟩ := (resolveClass_links e.toSetting hl).op (op := VmOp.resolveClass f.method.cls x.catchType) rfl
  have hal : s.vm.Alike (s.vm.noted f.method.cls x.catchType (.cls cT)) := (Vm.Alike.refl s.vm).noted _ _ _
  obtain ⟨k1, hk1⟩ := hk
  obtain ⟨k2, hk2⟩ := hc
  obtain ⟨k3, hk3, -⟩ := hal.2.2 _ _ hk1
  obtain ⟨k4, hk4, -⟩ := hal.2.2 _ _ hk2
  have hasg : (s.vm.noted f.method.cls x.catchType (.cls cT)).assignable cell.cls cT = s.vm.assignable cell.cls cT := hal.assignable ..
  cases hfit : s.vm.assignable cell.cls cT
  · rw [hfit] at hasg
    simp [findHandler.go, hx, h0, ha, ht, hcell, hobj, hk3, hk4, hasg, VmOp.dirties, VmOp.acts]
  · rw [hfit] at hasg
    simp [findHandler.go, hx, h0, ha, ht, hcell, hobj, hk3, hk4, hasg, VmOp.dirties, VmOp.acts]
theorem sm_step {e : Env} {s : State} {a : Addr} {f : JFrame} {r : List Frame} {pc : Nat} {vm' : Vm} (h : sm_Fd e s f a (.found pc) vm') :
    (stepThrowing e s a (.java f :: r)).Is ((s.setVm vm').setFrames (.java { f with pc := pc, stack := [.ref a] } :: r)) [] := by
  simp only [stepThrowing, searchFrame, vmDo]
  generalize hr : Sem.go _ e false [] s = res
  obtain ⟨as, rfl, ha⟩ := Sem.eq_ok_of hr (a := Handler.found pc) (s' := s.setVm vm') (acts' := []) (by simp [h _ _ _ _])
  exact ⟨rfl, ha⟩
theorem sm_caught {tb : Tables} {e : Env} {s target : State} {g : JFrame} {c : Code} {below : List Frame} {a : Addr} (h : At s g.method c below) {pc : Nat} {vm' : Vm}
    (hfind : sm_Fd e ((s.setTop g).pushFrame (.throwing a)) g a (.found pc) vm') (hrest : Steps tb e below ((s.setVm vm').setTop { g with pc := pc, stack := [.ref a] }) target) :
    Steps tb e below ((s.setTop g).pushFrame (.throwing a)) target := by
  obtain ⟨hgo, hw⟩ := h.throwing a
  refine Steps.head hgo hw ?_
  rw [stepThread_throwing (frames_entered h.top _), (sm_step (s := (s.setTop g).pushFrame (.throwing a)) hfind).1]
  obtain ⟨g₀, hg⟩ := Option.isSome_iff_exists.mp h.top
  obtain ⟨r, hr⟩ := State.topJava?_eq_some.mp hg
  have e1 : ∀ (u : State) (F K : List Frame), ((u.setFrames F).setVm vm').setFrames K = (u.setVm vm').setFrames K := fun u F K => by
    rw [show (u.setFrames F).setVm vm' = (u.setVm vm').setFrames F from rfl, State.setFrames_setFrames]
  have hr' : (s.setVm vm').frames = .java g₀ :: r := hr
  rw [State.setTop_of_frames _ hr'] at hrest
  rw [hr, List.tail_cons, State.pushFrame, e1, State.setTop_of_frames _ hr, e1]
  exact hrest
section SMC
variable {p : Program} {l : Launch} {e : Env} {R : Room} {s : State} {m : MethodId} {args : Array Value} {below : List Frame} {meth : Method} {c : Code} {H : Heap} {locs : List Loc} {cells slots : Nat} {Q : State → Prop}
variable {cc : ByteArray} {nL pc : Nat} {ls : Array Slot} {rest : List Value} {Ts : List Cond} {own : String} {v : sm_V} {M : sm_M} {o : sm_O}
theorem sm_self (vm : Vm) (k : ClassId) : vm.assignable k k = true := by
  show vm.assignableAux (255 + 1) k k = true
  rw [Vm.assignableAux, Bool.or_eq_true, beq_iff_eq]
  exact Or.inl rfl
theorem sm_link {index : Nat} {C : String} {U : State} (hpl : e.platform.magicAccessors = ({} : Platform).magicAccessors) (hown : s.vm.findClass own = some m.cls) (hl : (Cond.classLink own index C).before args s = true) (hW : s.WarmedH U.vm) :
    ∃ cT, s.vm.findClass C = some cT ∧ U.vm.ClassLinks e.platform m.cls index cT ∧ s.WarmedH (U.vm.noted m.cls index (.cls cT)) := by
  obtain ⟨cT, h1, hcl⟩ := Cond.classLink_spec hown hl e.platform hpl
  obtain ⟨dk, _, _, kt, hd, _, _, _, _, hkt, _, hopen⟩ := hcl.here
  exact ⟨cT, h1, hW.classLinks hcl, hW.noted hd hopen (State.rightAt_cls hcl)⟩
theorem sm_cls {C : String} {cT : ClassId} {U : State} (hW : s.WarmedH U.vm) (h : s.vm.findClass C = some cT) : ∃ k, U.vm.classes[cT]? = some k := by
  obtain ⟨k, hk, -⟩ := Vm.findClass_spec h
  obtain ⟨k', hk', -⟩ := hW.alike.2.2 _ _ hk
  exact ⟨k', hk'⟩
/-- the first row of the table takes it -/
theorem sm_fd1 {C : String} {U : State} {f : JFrame} {a : Addr} {cell : Cell} {x : ExceptionTableEntry} {t : List ExceptionTableEntry} (hpl : e.platform.magicAccessors = ({} : Platform).magicAccessors) (hown : s.vm.findClass own = some m.cls) (hW : s.WarmedH U.vm) (hm : U.vm.method? m = some meth) (hcode : meth.code = some c) (htab : c.exceptionTable.toList = x :: t)
    (hf : f.method = m) (hx : covers x f.pc = true) (h0 : x.catchType ≠ 0) (hl : (Cond.classLink own x.catchType C).before args s = true) (hcell : U.heap[a]? = some cell) (hvm : cell.vm = .none) (hcls : s.vm.findClass C = some cell.cls) :
    ∃ vm', s.WarmedH vm' ∧ sm_Fd e U f a (.found x.handlerPc) vm' := by
  subst hf
  obtain ⟨cT, h1, h2, h3⟩ := sm_link (U := U) hpl hown hl hW
  cases h1.symm.trans hcls
  refine ⟨_, h3, fun Q E d acts => ?_⟩
  rw [W.findHandler_eq hm hcode, htab, sm_go hx h0 h2 hcell (fun k h => by rw [hvm] at h; cases h) (sm_cls hW hcls) (sm_cls hW hcls), if_pos]
  exact sm_self _ _
/-- the first doesn't, the second does -/
theorem sm_fd2 {C C1 : String} {U : State} {f : JFrame} {a : Addr} {cell : Cell} {x1 x : ExceptionTableEntry} {t : List ExceptionTableEntry} (hpl : e.platform.magicAccessors = ({} : Platform).magicAccessors) (hown : s.vm.findClass own = some m.cls) (hW : s.WarmedH U.vm) (hm : U.vm.method? m = some meth) (hcode : meth.code = some c) (htab : c.exceptionTable.toList = x1 :: x :: t)
    (hf : f.method = m) (hx1 : covers x1 f.pc = true) (h01 : x1.catchType ≠ 0) (hl1 : (Cond.classLink own x1.catchType C1).before args s = true) (hno : va_Nc C C1 s) (hx : covers x f.pc = true) (h0 : x.catchType ≠ 0) (hl : (Cond.classLink own x.catchType C).before args s = true) (hcell : U.heap[a]? = some cell) (hvm : cell.vm = .none) (hcls : s.vm.findClass C = some cell.cls) :
    ∃ vm', s.WarmedH vm' ∧ sm_Fd e U f a (.found x.handlerPc) vm' := by
  subst hf
  obtain ⟨c1, h1, h2, h3⟩ := sm_link (U := U) hpl hown hl1 hW
  obtain ⟨cc0, ct0, n1, n2, n3⟩ := hno
  cases n1.symm.trans hcls
  cases n2.symm.trans h1
  obtain ⟨cT, g1, g2, g3⟩ := sm_link (U := U.setVm (U.vm.noted f.method.cls x1.catchType (.cls c1))) hpl hown hl h3
  cases g1.symm.trans hcls
  refine ⟨_, g3, fun Q E d acts => ?_⟩
  have hne : ¬ U.vm.assignable cell.cls c1 = true := by rw [hW.alike.assignable, n3]; decide
  rw [W.findHandler_eq hm hcode, htab, sm_go hx1 h01 h2 hcell (fun k h => by rw [hvm] at h; cases h) (sm_cls hW hcls) (sm_cls hW h1), if_neg hne,
    sm_go (s := U.setVm (U.vm.noted f.method.cls x1.catchType (.cls c1))) hx h0 g2 hcell (fun k h => by rw [hvm] at h; cases h) (sm_cls (U := U.setVm (U.vm.noted f.method.cls x1.catchType (.cls c1))) h3 hcls) (sm_cls (U := U.setVm (U.vm.noted f.method.cls x1.catchType (.cls c1))) h3 hcls), if_pos]
  · rfl
  · exact sm_self _ _
/-- a contract of a method that may throw, where it doesn't -/
theorem sm_X_ret {y : MethodName} {ws : List Cond} {rm : Room} {av : List Value} {r : Int32} {M' : sm_M} (h : sm_X l y ws rm v av M o (.inl (r, M'))) : Met l y ws rm (sm_Pc v M o av) (sm_Qi v M' o r) 1 6 (sm_A v) := by
  intro p e h1 h2 h3 s m args below h4 h5 h6 h7
  obtain ⟨n, oc, g1, g2, g3, ⟨e1, e2⟩, g5, L, ⟨g6, g7⟩, g8⟩ := h p e h1 h2 h3 s m args below h4 h5 h6 h7
  exact ⟨n, oc, g1, g2, g3, ⟨⟨r, (), e1, rfl, e2⟩, g5⟩, L, ⟨⟨_, e1⟩, g6, g7⟩, g8⟩
/-- .. and where it throws: the handler goes on -/
theorem sm_callT {y : MethodName} {ws : List Cond} {rm : Room} {bytes : ByteArray} {maxL index n hpc : Nat} {ret : Option FieldType} {C : String} {b : Addr} {As st0 : List Value}
    (hC : CallFix p m c cc nL s args Ts own) (hM : sm_X l y ws rm v (.ref b :: As) M o (.inr n)) (cw : CallW R s args own C index y bytes maxL ret ws rm 1 6 As.length) (hp : PreV s H C b (sm_Pc v M o (.ref b :: As)) As) (hG : sm_G v M o s H locs)
    (hfind : ∀ (U : State) (x : Addr) (cell : Cell), s.WarmedH U.vm → U.vm.method? m = some meth → U.heap[x]? = some cell → cell.vm = .none → s.vm.findClass (sm_exc n) = some cell.cls → e.platform.magicAccessors = ({} : Platform).magicAccessors → meth.code = some c → ∃ vm', s.WarmedH vm' ∧ sm_Fd e U (F0 m pc ls rest) x (.found hpc) vm')
    (hsz : ls.size = nL) (hst : st0 = As.reverse ++ .ref b :: rest) (hW : (rest.map fun v => v.category).sum ≤ 8) (hdg : decode cc pc = .ok (.invokevirtual index, 3)) (hcs : cells + 1 ≤ R.cells ∧ slots + 6 ≤ R.slots)
    (kk : ∀ (H1 : Heap) (locs1 : List Loc) (x : Addr), sm_G v M o s H1 locs1 → W p l e R s m args below meth c H1 locs1 (cells + 1) (slots + 6) Q (F0 m hpc ls [.ref x])) : W p l e R s m args below meth c H locs cells slots Q (F0 m pc ls st0) := by
  intro T hT X
  obtain ⟨⟨hrc, hrs, hfr, hlo, hws, hcm, hcode, hini, hy, hlen, hl⟩, hin, hse⟩ := cw
  obtain ⟨hx, hb, hml, ho, -⟩ := hC
  obtain ⟨hbl, ⟨cellB, hcB, hoB, hclB⟩, hPc⟩ := hp
  obtain ⟨mk, methM, hnamed, hmethM, hstM, habM⟩ := Cond.instanceMethod_spec hin
  obtain ⟨methM', cM, hmethM', hcM, -, hlM, -, -, -, hsigM⟩ := Cond.code_spec hnamed hcode
  cases hmethM.symm.trans hmethM'
  obtain ⟨c2, r2, m2, q1, q2, q3, q4, kP, hkP, hkPi⟩ := Cond.selects_spec hse
  cases hclB.symm.trans q1
  cases (State.methodFound?_of_named hnamed hy).symm.trans q2
  cases hnamed.symm.trans q3
  have hselP : selectMethod e.platform s.vm cellB.cls mk = .method mk := by rw [Launch.admits_selectMethod X.admits]; exact q4
  obtain ⟨vm₁, X₁, hstep₁⟩ := X.invokevirtual hx ho hl hnamed hmethM hstM hkP hkPi hy (a := b) (cell := cellB) (by rw [hT]; exact hcB)
    (fun z h => by rw [h] at hoB; cases hoB) hselP hmethM habM hkP hkPi (g := F0 m pc ls st0) rfl (argsL := As) (rest := rest) (hlen _ hsigM) hst (by rw [hb]; exact hdg)
  have hU : (T.setVm vm₁).heap = H := hT
  have hnY : (T.setVm vm₁).methodNamed? y = some mk := X₁.named hnamed
  have hcodeU : (Cond.code y bytes maxL ret).before ((Value.ref b :: As).toArray) (T.setVm vm₁) = true := hws _ hcm _ _ X₁.warmed
  obtain ⟨methY, cY, hmY, hcY, -, hlY, -, -, -, -⟩ := Cond.code_spec hnY hcodeU
  obtain ⟨kY, hkY, -⟩ := className_of_methodNamed hnY
  have hiniU : (Cond.initialized y.cls).before ((Value.ref b :: As).toArray) (T.setVm vm₁) = true := word_at X₁.warmed (Or.inl (by first | rfl | simp [Cond.onTables, Cond.keeps, Cond.steady])) hini
  have hinitY : kY.init = .initialized := Cond.initialized_spec (findClass_of_methodNamed hnY) hkY hiniU
  have hAt : At (T.setVm vm₁) (F0 m pc ls rest).method c below := X₁.here
  have happ : (headSpec ws rm).appliesLoose y e.platform ((T.setVm vm₁).calling (F0 m pc ls rest) mk ((Value.ref b :: As).toArray)) = true :=
    Spec.appliesLoose_calling (g := F0 m pc ls rest) hAt (by rw [hb]; exact hdg) hnY hkY hinitY
      (X₁.room_calling (g := F0 m pc ls rest) (R' := rm) (hsz.trans hml.symm) hmY hcY hfr (by
        have h9 : 2 * (F0 m pc ls rest).monitorRoom + ((F0 m pc ls rest).stack.map fun v => v.category).sum ≤ 8 := lv_room hW
        rw [hlY]; omega) (by rw [hrc]; exact hcs.1) (by rw [hrs]; exact hcs.2)) (atoms_intro fun w hw => hws w hw _ _ X₁.warmed)
  obtain ⟨mid, hmid⟩ := hAt.above
  have hfr2 : ((T.setVm vm₁).setTop (F0 m pc ls rest)).frames = (.java (F0 m pc ls rest) :: mid) ++ below := by rw [State.frames_setTop' (F0 m pc ls rest) hAt.top, hmid]; rfl
  obtain ⟨oc, s₂, hsteps, -, hend, hq⟩ := Steps.callFree hM p X.admits X.cas X.clock (acts := []) hfr2 happ (hbl _ _ _ _ (hPc (T.setVm vm₁) hU X₁.warmed)) trivial
  have hq : sm_PX v M o (.inr n) ((Value.ref b :: As).toArray) ((T.setVm vm₁).calling (F0 m pc ls rest) mk ((Value.ref b :: As).toArray)) oc s₂ := hq
  obtain ⟨⟨x, cell, rfl, hcx, hvx, hfx, hPx⟩, hFx, L, ⟨hW₂, e2, q5, q6, q7, q8, q9⟩, hL⟩ := hq
  have hend : s₂.frames = .throwing x :: ((T.setVm vm₁).setTop (F0 m pc ls rest)).frames := hend
  have hW' : (T.setVm vm₁).WarmedH s₂.vm := hW₂
  have hWs : s.WarmedH s₂.vm := State.WarmedH.trans X₁.warmed hW'
  have e3 : s₂ = ({ ((T.setVm vm₁).calling (F0 m pc ls rest) mk ((Value.ref b :: As).toArray)).setFrames s₂.frames with heap := s₂.heap, slotsUsed := s₂.slotsUsed } : State).setVm s₂.vm := by
    have : s₂ = ({ s₂ with vm := ((T.setVm vm₁).calling (F0 m pc ls rest) mk ((Value.ref b :: As).toArray)).vm } : State).setVm s₂.vm := rfl
    rw [e2] at this
    exact this
  obtain ⟨g₀, hg0⟩ := Option.isSome_iff_exists.mp hAt.top
  obtain ⟨r, hr⟩ := State.topJava?_eq_some.mp hg0
  generalize hB : (({ (T.setVm vm₁) with heap := s₂.heap, slotsUsed := s₂.slotsUsed } : State).setVm s₂.vm) = B
  have hs₂ : s₂ = (B.setTop (F0 m pc ls rest)).pushFrame (.throwing x) := by
    have hr' : B.frames = .java g₀ :: r := by rw [← hB]; exact hr
    have hr2 : (T.setVm vm₁).frames = .java g₀ :: r := hr
    refine e3.trans ?_
    rw [hend, State.calling_eq hAt.top, State.setFrames_setFrames, State.setTop_of_frames _ hr2, State.pushFrame, State.setTop_of_frames _ hr', State.frames_setFrames _ (State.cur_lt_of_frames hr'), State.frames_setFrames _ (State.cur_lt_of_frames hr2), State.setFrames_setFrames]
    rw [← hB]
    rfl
  have hsame : (T.setVm vm₁).sameButNew ({ (T.setVm vm₁) with heap := s₂.heap, slotsUsed := s₂.slotsUsed } : State) L 1 6 := by
    refine ⟨?_, q5, q6, q7, q8, q9⟩
    obtain ⟨t, ht, -⟩ := State.frames_cons hr
    show ({ (T.setVm vm₁) with heap := s₂.heap, slotsUsed := s₂.slotsUsed } : State) = { (T.setVm vm₁).setFrames (T.setVm vm₁).frames with heap := s₂.heap, slotsUsed := s₂.slotsUsed }
    rw [State.setFrames_self ht]
  have X₂ : Stand p l e R s m args below meth c B (locs ++ L) (cells + 1) (slots + 6) := by
    rw [← hB]
    exact ⟨X₁.admits, X₁.cas, X₁.clock, X₁.frames, X₁.room, X₁.hears, X₁.method, X₁.code, (X₁.here.setHeapUsed s₂.heap s₂.slotsUsed).setVm hW'.alike, X₁.tail, hWs, X₁.limits, X₁.bytes, X₁.same.trans (hsame.setVm s.vm)⟩
  have hBh : B.heap = s₂.heap := by rw [← hB]; rfl
  have hBv : B.vm = s₂.vm := by rw [← hB]; rfl
  have hpl : e.platform.magicAccessors = ({} : Platform).magicAccessors := by rw [X.admits.platform]
  obtain ⟨vm', hW3, hfd⟩ := hfind ((B.setTop (F0 m pc ls rest)).pushFrame (.throwing x)) x cell (by rw [← hs₂]; exact hWs) (by rw [← hs₂, ← hBv]; exact X₂.method') (by rw [← hs₂]; exact hcx) hvx (by rw [← hWs.alike.findClass]; exact hfx) hpl X.code
  have hS1 : va_S (sm_A v) s.heap s₂.heap (locs ++ L) := by
    obtain ⟨z1, z2⟩ := hFx
    have z1 : H.size ≤ s₂.heap.size := by rw [← hU]; exact z1
    have z2 : ∀ q : Nat, q < H.size → ¬ sm_A v q → s₂.heap[q]? = H[q]? := fun q h1 h2 => by
      have := z2 q (by show q < (T.setVm vm₁).heap.size; rw [hU]; exact h1) h2
      rw [← hU]
      exact this
    refine ⟨Nat.le_trans hG.2.1 z1, fun q h1 h2 => (z2 q (Nat.lt_of_lt_of_le h1 hG.2.1) h2).trans (hG.2.2.1 q h1 h2), fun q hq => ?_⟩
    rcases List.mem_append.mp hq with h | h
    · exact hG.2.2.2 q h
    · exact hL q h
  obtain ⟨t2, a1, b1⟩ := kk s₂.heap (locs ++ L) x ⟨hPx, hS1⟩ (B.setVm vm') hBh (X₂.noted hW3)
  refine ⟨t2, hstep₁ _ fun acts => ?_, b1⟩
  rw [doInvoke_state]
  refine hsteps.trans ?_
  rw [hs₂]
  exact sm_caught X₂.here hfd a1
end SMC

