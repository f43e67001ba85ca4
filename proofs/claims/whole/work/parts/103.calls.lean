-- the invoking instructions, up to the callee's entry
section XTC
variable {p : Program} {l : Launch} {e : Env} {R : Room} {s : State} {m : MethodId} {args : Array Value} {below : List Frame} {meth : Method} {c : Code} {T : State} {locs : List Loc} {cells slots : Nat}
def xt_Inv (p : Program) (l : Launch) (e : Env) (R : Room) (s : State) (m : MethodId) (args : Array Value) (below : List Frame) (meth : Method) (c : Code) (T : State) (locs : List Loc) (cells slots : Nat) (g : JFrame) (rest : List Value) (y : MethodName) (av : List Value) : Prop :=
  ∃ (vm₁ : Vm) (mk : MethodId), Stand p l e R s m args below meth c (T.setVm vm₁) locs cells slots ∧ (T.setVm vm₁).methodNamed? y = some mk ∧
    ∀ target, (∀ acts, Steps p.tables e below (doInvoke e ((T.setVm vm₁).setTop { g with stack := rest }) acts mk av.toArray).1 target) → Steps p.tables e below (T.setTop g) target
/-- what a call wants of the callee's name -/
def xt_nm (y : MethodName) (n : Nat) : Prop := (y.cls ≠ "java/lang/invoke/MethodHandle" ∧ y.cls ≠ "java/lang/invoke/VarHandle") ∧ (parseMethodDescriptor y.desc).map (fun d => d.parameters.length) = some n
theorem xt_nm.len {y : MethodName} {n : Nat} (h : xt_nm y n) {sig : MethodDescriptor} (hs : parseMethodDescriptor y.desc = some sig) : n = sig.parameters.length := by
  have h2 := h.2
  rw [hs] at h2
  exact (Option.some.inj h2).symm
theorem xt_invV (X : Stand p l e R s m args below meth c T locs cells slots) (hexec : p.tables.exec = Jvm.exec) {own C : String} {index n : Nat} {y : MethodName} (hown : s.vm.findClass own = some m.cls)
    (hlink : (Cond.methodLink own index y).before args s = true) (hinst : (Cond.instanceMethod y).before args s = true) (hsel : (Cond.selects C y y).before args s = true) (hsig : ∀ (mk : MethodId) (mt : Method), s.methodNamed? y = some mk → s.vm.method? mk = some mt → parseMethodDescriptor y.desc = some mt.sig) (hy : xt_nm y n)
    {b : Addr} {cellB : Cell} (hcell : T.heap[b]? = some cellB) (hobj : cellB.vm.isStatics = false) (hcls : s.vm.findClass C = some cellB.cls)
    {g : JFrame} (hg : g.method = m) {argsL rest : List Value} (hlen : argsL.length = n) (hstack : g.stack = argsL.reverse ++ .ref b :: rest) (hdg : decode c.code g.pc = .ok (.invokevirtual index, 3)) :
    xt_Inv p l e R s m args below meth c T locs cells slots g rest y (.ref b :: argsL) := by
  obtain ⟨mk, methM, hnamed, hmethM, hstM, habM⟩ := Cond.instanceMethod_spec hinst
  have hsigM := hsig mk methM hnamed hmethM
  obtain ⟨c2, r2, m2, q1, q2, q3, q4, kP, hkP, hkPi⟩ := Cond.selects_spec hsel
  cases hcls.symm.trans q1
  cases (State.methodFound?_of_named hnamed hy.1).symm.trans q2
  cases hnamed.symm.trans q3
  have hselP : selectMethod e.platform s.vm cellB.cls mk = .method mk := by rw [Launch.admits_selectMethod X.admits]; exact q4
  obtain ⟨vm₁, X₁, hstep₁⟩ := X.invokevirtual hexec hown hlink hnamed hmethM hstM hkP hkPi hy.1 (a := b) (cell := cellB) hcell
    (fun z h => by rw [h] at hobj; cases hobj) hselP hmethM habM hkP hkPi (g := g) hg (argsL := argsL) (rest := rest) (hlen.trans (hy.len hsigM)) hstack hdg
  exact ⟨vm₁, mk, X₁, X₁.named hnamed, hstep₁⟩
theorem xt_invVN (X : Stand p l e R s m args below meth c T locs cells slots) (hexec : p.tables.exec = Jvm.exec) {own C host : String} {index n : Nat} {y : MethodName} (hown : s.vm.findClass own = some m.cls)
    (hlink : (Cond.methodLinkNest own index y host).before args s = true) (hinst : (Cond.instanceMethod y).before args s = true) (hsel : (Cond.selects C y y).before args s = true) (hsig : ∀ (mk : MethodId) (mt : Method), s.methodNamed? y = some mk → s.vm.method? mk = some mt → parseMethodDescriptor y.desc = some mt.sig) (hy : xt_nm y n)
    {b : Addr} {cellB : Cell} (hcell : T.heap[b]? = some cellB) (hobj : cellB.vm.isStatics = false) (hcls : s.vm.findClass C = some cellB.cls)
    {g : JFrame} (hg : g.method = m) {argsL rest : List Value} (hlen : argsL.length = n) (hstack : g.stack = argsL.reverse ++ .ref b :: rest) (hdg : decode c.code g.pc = .ok (.invokevirtual index, 3)) :
    xt_Inv p l e R s m args below meth c T locs cells slots g rest y (.ref b :: argsL) := by
  obtain ⟨mk, methM, hnamed, hmethM, hstM, habM⟩ := Cond.instanceMethod_spec hinst
  have hsigM := hsig mk methM hnamed hmethM
  obtain ⟨c2, r2, m2, q1, q2, q3, q4, kP, hkP, hkPi⟩ := Cond.selects_spec hsel
  cases hcls.symm.trans q1
  cases (State.methodFound?_of_named hnamed hy.1).symm.trans q2
  cases hnamed.symm.trans q3
  have hselP : selectMethod e.platform s.vm cellB.cls mk = .method mk := by rw [Launch.admits_selectMethod X.admits]; exact q4
  obtain ⟨vm₁, X₁, hstep₁⟩ := X.invokevirtualNest hexec hown hlink hnamed hmethM hstM hkP hkPi hy.1 (a := b) (cell := cellB) hcell
    (fun z h => by rw [h] at hobj; cases hobj) hselP hmethM habM hkP hkPi (g := g) hg (argsL := argsL) (rest := rest) (hlen.trans (hy.len hsigM)) hstack hdg
  exact ⟨vm₁, mk, X₁, X₁.named hnamed, hstep₁⟩
theorem xt_invS (X : Stand p l e R s m args below meth c T locs cells slots) (hexec : p.tables.exec = Jvm.exec) {own : String} {index n : Nat} {y : MethodName} (hown : s.vm.findClass own = some m.cls)
    (hlink : (Cond.methodLink own index y).before args s = true) (hstat : (Cond.static y).before args s = true) (hinit : (Cond.initialized y.cls).before args s = true) (hnm : ∃ mk, s.methodNamed? y = some mk) (hsig : ∀ (mk : MethodId), s.methodNamed? y = some mk → ∃ mt : Method, s.vm.method? mk = some mt ∧ parseMethodDescriptor y.desc = some mt.sig) (hy : xt_nm y n)
    {g : JFrame} (hg : g.method = m) {argsL rest : List Value} (hlen : argsL.length = n) (hstack : g.stack = argsL.reverse ++ rest) (hdg : decode c.code g.pc = .ok (.invokestatic index, 3)) :
    xt_Inv p l e R s m args below meth c T locs cells slots g rest y argsL := by
  obtain ⟨mk, hnamed⟩ := hnm
  obtain ⟨methM, hmethM, hsigM⟩ := hsig mk hnamed
  have hstatic : methM.isStatic = true := Cond.static_spec hnamed hmethM hstat
  obtain ⟨kP, hkP, -⟩ := className_of_methodNamed hnamed
  have hinitP : kP.init = .initialized := Cond.initialized_spec (findClass_of_methodNamed hnamed) hkP hinit
  obtain ⟨vm₁, X₁, hstep₁⟩ := X.invokestatic hexec hown hlink hnamed hmethM hstatic hkP hinitP hy.1 (g := g) hg (argsL := argsL) (rest := rest) (hlen.trans (hy.len hsigM)) hstack hdg
  exact ⟨vm₁, mk, X₁, X₁.named hnamed, hstep₁⟩
theorem xt_invSN (X : Stand p l e R s m args below meth c T locs cells slots) (hexec : p.tables.exec = Jvm.exec) {own host : String} {index n : Nat} {y : MethodName} (hown : s.vm.findClass own = some m.cls)
    (hlink : (Cond.methodLinkNest own index y host).before args s = true) (hstat : (Cond.static y).before args s = true) (hinit : (Cond.initialized y.cls).before args s = true) (hnm : ∃ mk, s.methodNamed? y = some mk) (hsig : ∀ (mk : MethodId), s.methodNamed? y = some mk → ∃ mt : Method, s.vm.method? mk = some mt ∧ parseMethodDescriptor y.desc = some mt.sig) (hy : xt_nm y n)
    {g : JFrame} (hg : g.method = m) {argsL rest : List Value} (hlen : argsL.length = n) (hstack : g.stack = argsL.reverse ++ rest) (hdg : decode c.code g.pc = .ok (.invokestatic index, 3)) :
    xt_Inv p l e R s m args below meth c T locs cells slots g rest y argsL := by
  obtain ⟨mk, hnamed⟩ := hnm
  obtain ⟨methM, hmethM, hsigM⟩ := hsig mk hnamed
  have hstatic : methM.isStatic = true := Cond.static_spec hnamed hmethM hstat
  obtain ⟨kP, hkP, -⟩ := className_of_methodNamed hnamed
  have hinitP : kP.init = .initialized := Cond.initialized_spec (findClass_of_methodNamed hnamed) hkP hinit
  obtain ⟨vm₁, X₁, hstep₁⟩ := X.invokestaticNest hexec hown hlink hnamed hmethM hstatic hkP hinitP hy.1 (g := g) hg (argsL := argsL) (rest := rest) (hlen.trans (hy.len hsigM)) hstack hdg
  exact ⟨vm₁, mk, X₁, X₁.named hnamed, hstep₁⟩
theorem xt_invI (X : Stand p l e R s m args below meth c T locs cells slots) (hexec : p.tables.exec = Jvm.exec) {own : String} {index n : Nat} {y : MethodName} {bytes : ByteArray} {maxL : Nat} (hown : s.vm.findClass own = some m.cls)
    (hy1 : y.name = "<init>") (hlink : (Cond.methodLink own index y).before args s = true) (hinst : (Cond.instanceMethod y).before args s = true) (hcode : (Cond.code y bytes maxL none).before args s = true) (hy : xt_nm y n)
    {g : JFrame} (hg : g.method = m) {b : Addr} {argsL rest : List Value} (hlen : argsL.length = n) (hstack : g.stack = argsL.reverse ++ .ref b :: rest) (hdg : decode c.code g.pc = .ok (.invokespecial index, 3)) :
    xt_Inv p l e R s m args below meth c T locs cells slots g rest y (.ref b :: argsL) := by
  subst hg
  have hpl : e.platform.magicAccessors = ({} : Platform).magicAccessors := by rw [X.admits.platform]
  obtain ⟨mk, methM, cM, kP, vm₁, hnamed, hmethM, hcodeM, -, hlocalsM, -, hkP, -, hW₁, hstep₁⟩ := Steps.initColdArgs (e := e) X.here hexec X.warmed hpl hown hy1 hy.1 hlink hinst hcode (f := g) rfl (fun sig h => hlen.trans (hy.len h)) hstack hdg
  have X₁ := X.noted hW₁
  exact ⟨vm₁, mk, X₁, X₁.named hnamed, hstep₁⟩
theorem xt_invIN (X : Stand p l e R s m args below meth c T locs cells slots) (hexec : p.tables.exec = Jvm.exec) {own host : String} {index n : Nat} {y : MethodName} {bytes : ByteArray} {maxL : Nat} (hown : s.vm.findClass own = some m.cls)
    (hy1 : y.name = "<init>") (hlink : (Cond.methodLinkNest own index y host).before args s = true) (hinst : (Cond.instanceMethod y).before args s = true) (hcode : (Cond.code y bytes maxL none).before args s = true) (hy : xt_nm y n)
    {g : JFrame} (hg : g.method = m) {b : Addr} {argsL rest : List Value} (hlen : argsL.length = n) (hstack : g.stack = argsL.reverse ++ .ref b :: rest) (hdg : decode c.code g.pc = .ok (.invokespecial index, 3)) :
    xt_Inv p l e R s m args below meth c T locs cells slots g rest y (.ref b :: argsL) := by
  subst hg
  have hpl : e.platform.magicAccessors = ({} : Platform).magicAccessors := by rw [X.admits.platform]
  obtain ⟨mk, methM, cM, kP, vm₁, hnamed, hmethM, hcodeM, -, hlocalsM, -, hkP, -, hW₁, hstep₁⟩ := Steps.initColdArgsNest (e := e) X.here hexec X.warmed hpl hown hy1 hy.1 hlink hinst hcode (f := g) rfl (fun sig h => hlen.trans (hy.len h)) hstack hdg
  have X₁ := X.noted hW₁
  exact ⟨vm₁, mk, X₁, X₁.named hnamed, hstep₁⟩
end XTC
-- a thrown object of class X, as a heap has it
def xt_Ex (X : String) (a : Nat) (U : State) (H : Heap) : Prop := ∃ cell : Cell, H[a]? = some cell ∧ cell.vm = .none ∧ U.vm.findClass X = some cell.cls
theorem xt_Ex.moved {X : String} {a : Nat} {u U : State} {H : Heap} (hvm : u.vm.Alike U.vm) (h : xt_Ex X a u H) : xt_Ex X a U H := by
  obtain ⟨cell, h1, h2, h3⟩ := h
  exact ⟨cell, h1, h2, by rw [hvm.findClass]; exact h3⟩
-- handlers: the search, cold or warm
section XTD
def xt_Go (e : Env) (f : JFrame) (a : Addr) (t : List ExceptionTableEntry) (u : State) (pc : Nat) (vm' : Vm) : Prop :=
  ∀ (Q : Handler → Pre) (E : CtlPost) (d : Bool) (acts : List Action), wp (findHandler.go f a t) Q E e d acts u ↔ Q (.found pc) d acts (u.setVm vm')
theorem xt_goSkip {e : Env} {f : JFrame} {a : Addr} {x : ExceptionTableEntry} {t : List ExceptionTableEntry} {u : State} {pc : Nat} {vm' : Vm} (hx : covers x f.pc = false) (h : xt_Go e f a t u pc vm') : xt_Go e f a (x :: t) u pc vm' :=
  fun Q E d acts => (Jvm.W.findHandler_go_skip hx).trans (h Q E d acts)
theorem xt_goClass {Q : Handler → Pre} {E : CtlPost} {e : Env} {d : Bool} {acts : List Action} {u : State} {f : JFrame} {a : Addr} {x : ExceptionTableEntry} {t : List ExceptionTableEntry} {cT : ClassId} {cell : Cell} {vm' : Vm} (hx : covers x f.pc = true) (h0 : x.catchType ≠ 0)
    (hg : (Jvm.resolveClass f.method.cls x.catchType).Gives e.toSetting u.vm (.ok cT) vm') (hsz : vm'.classes.size ≤ u.vm.classes.size) (hcell : u.heap[a]? = some cell) (hobj : ∀ k, cell.vm ≠ .statics k)
    (hk : ∃ k, vm'.classes[cell.cls]? = some k) (hc : ∃ k, vm'.classes[cT]? = some k) :
    wp (findHandler.go f a (x :: t)) Q E e d acts u ↔ if vm'.assignable cell.cls cT = true then Q (.found x.handlerPc) d acts (u.setVm vm') else wp (findHandler.go f a t) Q E e d acts (u.setVm vm') := by
  simp only [covers] at hx
  obtain ⟨ha, ht⟩ := hg.op (op := VmOp.resolveClass f.method.cls x.catchType) rfl
  cases hfit : vm'.assignable cell.cls cT <;>
    simp [findHandler.go, hx, h0, ha, ht, hsz, hcell, hobj, hk, hc, hfit, VmOp.dirties, VmOp.acts]
variable {p : Program} {l : Launch} {e : Env} {R : Room} {s : State} {m : MethodId} {args : Array Value} {below : List Frame} {meth : Method} {c : Code} {T : State} {locs : List Loc} {cells slots : Nat}
/-- the next row of the table covers the place and takes the object -/
theorem xt_goHit (X : Stand p l e R s m args below meth c T locs cells slots) {own name Xn : String} (hown : s.vm.findClass own = some m.cls) {x : ExceptionTableEntry} {t : List ExceptionTableEntry} (hlink : (Cond.classLink own x.catchType name).before args s = true)
    {a : Addr} (hex : xt_Ex Xn a s T.heap) (hcast : (Cond.castable Xn name).before args s = true) {g : JFrame} (hg : g.method = m) (hx : covers x g.pc = true) (h0 : x.catchType ≠ 0) :
    ∃ vm', s.WarmedH vm' ∧ xt_Go e g a (x :: t) ((T.setTop g).pushFrame (.throwing a)) x.handlerPc vm' := by
  have hpl : e.platform.magicAccessors = ({} : Platform).magicAccessors := by rw [X.admits.platform]
  obtain ⟨cell, hcell, hvm, hfc⟩ := hex
  obtain ⟨cT, hcT, hcl⟩ := Cond.classLink_spec hown hlink e.platform hpl
  obtain ⟨c3, c4, hc3, hc4, hasg⟩ := Cond.castable_spec hcast
  cases hfc.symm.trans hc3
  cases hcT.symm.trans hc4
  obtain ⟨dk, _, _, kt, hd, _, _, _, _, hkt, _, hopen⟩ := hcl.here
  obtain ⟨ks, hks⟩ := Vm.classAt_of_assignable hasg ⟨kt, hkt⟩
  have hcl₀ := X.warmed.classLinks hcl
  have hW' : s.WarmedH (T.vm.noted m.cls x.catchType (.cls cT)) := X.warmed.noted hd hopen (State.rightAt_cls hcl)
  obtain ⟨ks', hks', -⟩ := hW'.alike.2.2 _ _ hks
  obtain ⟨kt', hkt', -⟩ := hW'.alike.2.2 _ _ hkt
  subst hg
  refine ⟨_, hW', fun Q E d acts => ?_⟩
  have hvm0 := Stand.throwing_vm T g a
  have hheap := Stand.throwing_heap T g a
  have hgv : (Jvm.resolveClass g.method.cls x.catchType).Gives e.toSetting ((T.setTop g).pushFrame (.throwing a)).vm (.ok cT) (T.vm.noted g.method.cls x.catchType (.cls cT)) := by
    rw [hvm0]; exact resolveClass_links e.toSetting hcl₀
  rw [xt_goClass hx h0 hgv (by rw [hvm0]; simp [Vm.noted]) (by rw [hheap]; exact hcell) (fun k => by rw [hvm]; exact fun h => by cases h) ⟨ks', hks'⟩ ⟨kt', hkt'⟩]
  have h1 : (T.vm.noted g.method.cls x.catchType (Resolved.cls cT)).assignable cell.cls cT = true := by rw [hW'.alike.assignable]; exact hasg
  rw [if_pos h1]
/-- the next row covers the place, and does not take the object -/
theorem xt_goMiss (X : Stand p l e R s m args below meth c T locs cells slots) {own name Xn : String} (hown : s.vm.findClass own = some m.cls) {x : ExceptionTableEntry} {t : List ExceptionTableEntry} (hlink : (Cond.classLink own x.catchType name).before args s = true)
    {a : Addr} (hex : xt_Ex Xn a s T.heap) (hnc : va_Nc Xn name s) {g : JFrame} (hg : g.method = m) (hx : covers x g.pc = true) (h0 : x.catchType ≠ 0) :
    ∃ vm₁, Stand p l e R s m args below meth c (T.setVm vm₁) locs cells slots ∧ ∀ (pc : Nat) (vm' : Vm), xt_Go e g a t (((T.setVm vm₁).setTop g).pushFrame (.throwing a)) pc vm' → xt_Go e g a (x :: t) ((T.setTop g).pushFrame (.throwing a)) pc vm' := by
  have hpl : e.platform.magicAccessors = ({} : Platform).magicAccessors := by rw [X.admits.platform]
  obtain ⟨cell, hcell, hvm, hfc⟩ := hex
  obtain ⟨cT, hcT, hcl⟩ := Cond.classLink_spec hown hlink e.platform hpl
  obtain ⟨c3, c4, hc3, hc4, hasg⟩ := hnc
  cases hfc.symm.trans hc3
  cases hcT.symm.trans hc4
  obtain ⟨dk, _, _, kt, hd, _, _, _, _, hkt, _, hopen⟩ := hcl.here
  obtain ⟨ks, hks⟩ := Vm.classAt_of_findClass hfc
  have hcl₀ := X.warmed.classLinks hcl
  have hW' : s.WarmedH (T.vm.noted m.cls x.catchType (.cls cT)) := X.warmed.noted hd hopen (State.rightAt_cls hcl)
  obtain ⟨ks', hks', -⟩ := hW'.alike.2.2 _ _ hks
  obtain ⟨kt', hkt', -⟩ := hW'.alike.2.2 _ _ hkt
  subst hg
  refine ⟨_, X.noted hW', fun pc vm' hgo Q E d acts => ?_⟩
  have hvm0 := Stand.throwing_vm T g a
  have hheap := Stand.throwing_heap T g a
  have hgv : (Jvm.resolveClass g.method.cls x.catchType).Gives e.toSetting ((T.setTop g).pushFrame (.throwing a)).vm (.ok cT) (T.vm.noted g.method.cls x.catchType (.cls cT)) := by
    rw [hvm0]; exact resolveClass_links e.toSetting hcl₀
  rw [xt_goClass hx h0 hgv (by rw [hvm0]; simp [Vm.noted]) (by rw [hheap]; exact hcell) (fun k => by rw [hvm]; exact fun h => by cases h) ⟨ks', hks'⟩ ⟨kt', hkt'⟩]
  have h1 : ¬ (T.vm.noted g.method.cls x.catchType (Resolved.cls cT)).assignable cell.cls cT = true := by rw [hW'.alike.assignable, hasg]; decide
  rw [if_neg h1]
  exact hgo Q E d acts
theorem xt_stepCatch {e : Env} {u : State} {a : Addr} {f : JFrame} {r : List Frame} {pc : Nat} {mt : Method} {cd : Code} {vm' : Vm} (hm : u.vm.method? f.method = some mt) (hc : mt.code = some cd) (hgo : xt_Go e f a cd.exceptionTable.toList u pc vm') :
    (stepThrowing e u a (.java f :: r)).Is ((u.setVm vm').setFrames (.java { f with pc := pc, stack := [.ref a] } :: r)) [] := by
  have hfind : ∀ (Q : Handler → Pre) (E : CtlPost) (d : Bool) (acts : List Action), wp (findHandler f a) Q E e d acts u ↔ Q (.found pc) d acts (u.setVm vm') := fun Q E d acts => (Jvm.W.findHandler_eq hm hc).trans (hgo Q E d acts)
  simp only [stepThrowing, searchFrame, vmDo]
  generalize hr : Sem.go _ e false [] u = res
  obtain ⟨as, rfl, ha⟩ := Sem.eq_ok_of hr (a := Handler.found pc) (s' := u.setVm vm') (acts' := []) (by simp [hfind _ _ _ _])
  exact ⟨rfl, ha⟩
theorem xt_caught (X : Stand p l e R s m args below meth c T locs cells slots) {a : Addr} {g : JFrame} (hg : g.method = m) {pc : Nat} {vm' : Vm} (hgo : xt_Go e g a c.exceptionTable.toList ((T.setTop g).pushFrame (.throwing a)) pc vm')
    {target : State} (hrest : Steps p.tables e below ((T.setVm vm').setTop { g with pc := pc, stack := [.ref a] }) target) : Steps p.tables e below ((T.setTop g).pushFrame (.throwing a)) target := by
  have h : At T g.method c below := by rw [hg]; exact X.here
  obtain ⟨hgo0, hw⟩ := h.throwing a
  refine Steps.head hgo0 hw ?_
  rw [stepThread_throwing (frames_entered h.top _), (xt_stepCatch (u := (T.setTop g).pushFrame (.throwing a)) (mt := meth) (cd := c) (by rw [Stand.throwing_vm, hg]; exact X.method') X.code hgo).1]
  obtain ⟨g₀, hg0⟩ := Option.isSome_iff_exists.mp h.top
  obtain ⟨r, hr⟩ := State.topJava?_eq_some.mp hg0
  have hr' : (T.setVm vm').frames = .java g₀ :: r := hr
  rw [State.setTop_of_frames _ hr'] at hrest
  have e1 : (((T.setTop g).pushFrame (.throwing a)).setVm vm').setFrames (.java { g with pc := pc, stack := [.ref a] } :: T.frames.tail) = (T.setVm vm').setFrames (.java { g with pc := pc, stack := [.ref a] } :: r) := by
    rw [State.pushFrame, State.setTop_of_frames _ hr, State.setFrames_setFrames, hr]
    show ((T.setFrames _).setVm vm').setFrames _ = _
    have e2 : ∀ fs : List Frame, (T.setFrames fs).setVm vm' = (T.setVm vm').setFrames fs := fun fs => rfl
    rw [e2, State.setFrames_setFrames]
    rfl
  rw [e1]
  exact hrest
variable {H : Heap} {Q : State → Prop}
/-- caught by the first row that covers the place -/
theorem xt_catch {own name Xn : String} (hown : s.vm.findClass own = some m.cls) {pc : Nat} {ls : Array Slot} {st : List Value} {a : Addr} (x : ExceptionTableEntry) (t : List ExceptionTableEntry) (ht : c.exceptionTable.toList = x :: t) (hx : covers x pc = true) (h0 : x.catchType ≠ 0)
    (hlink : (Cond.classLink own x.catchType name).before args s = true) (hcast : (Cond.castable Xn name).before args s = true) (hex : xt_Ex Xn a s H)
    (kk : W p l e R s m args below meth c H locs cells slots Q (F0 m x.handlerPc ls [.ref a])) : xt_WT p l e R s m args below meth c H locs cells slots Q (F0 m pc ls st) a := by
  intro T hT X
  obtain ⟨vm', hW, hgo⟩ := xt_goHit X hown (x := x) (t := t) hlink (a := a) (by rw [hT]; exact hex) hcast (g := F0 m pc ls st) rfl hx h0
  obtain ⟨t2, a1, b1⟩ := kk (T.setVm vm') hT (X.noted hW)
  exact ⟨t2, xt_caught X rfl (by rw [ht]; exact hgo) a1, b1⟩
/-- caught by the second row; the first covers the place, too, and does not take the object -/
theorem xt_catch2 {own name1 name Xn : String} (hown : s.vm.findClass own = some m.cls) {pc : Nat} {ls : Array Slot} {st : List Value} {a : Addr} (y x : ExceptionTableEntry) (t : List ExceptionTableEntry) (ht : c.exceptionTable.toList = y :: x :: t) (hy : covers y pc = true) (hy0 : y.catchType ≠ 0) (hx : covers x pc = true) (h0 : x.catchType ≠ 0)
    (hlink1 : (Cond.classLink own y.catchType name1).before args s = true) (hnc : va_Nc Xn name1 s) (hlink : (Cond.classLink own x.catchType name).before args s = true) (hcast : (Cond.castable Xn name).before args s = true) (hex : xt_Ex Xn a s H)
    (kk : W p l e R s m args below meth c H locs cells slots Q (F0 m x.handlerPc ls [.ref a])) : xt_WT p l e R s m args below meth c H locs cells slots Q (F0 m pc ls st) a := by
  intro T hT X
  have hexT : xt_Ex Xn a s T.heap := by rw [hT]; exact hex
  obtain ⟨vm₁, X1, hgo1⟩ := xt_goMiss X hown (x := y) (t := x :: t) hlink1 (a := a) hexT hnc (g := F0 m pc ls st) rfl hy hy0
  obtain ⟨vm', hW, hgo⟩ := xt_goHit X1 hown (x := x) (t := t) hlink (a := a) hexT hcast (g := F0 m pc ls st) rfl hx h0
  obtain ⟨t2, a1, b1⟩ := kk (T.setVm vm') hT (X.noted hW)
  exact ⟨t2, xt_caught X rfl (by rw [ht]; exact hgo1 _ _ hgo) a1, b1⟩
end XTD
