-- new X("..."), thrown: the walk so far is taken as an invocation of its own, that begins here
section XTF
variable {p : Program} {l : Launch} {e : Env} {R : Room} {s : State} {m : MethodId} {args : Array Value} {below : List Frame} {meth : Method} {c : Code} {T : State} {H : Heap} {locs : List Loc} {cells slots : Nat}
def xt_from (s T : State) (m : MethodId) (args : Array Value) (below : List Frame) : State := (T.setVm s.vm).setFrames (.invoking m args :: below)
def xt_left (R : Room) (cells slots : Nat) : Room := { frames := R.frames, cells := R.cells - cells, slots := R.slots - slots, locals := R.locals }
theorem xt_rebase (X : Stand p l e R s m args below meth c T locs cells slots) (hc : cells ≤ R.cells) (hs : slots ≤ R.slots) : Stand p l e (xt_left R cells slots) (xt_from s T m args below) m args below meth c T [] 0 0 := by
  obtain ⟨g₀, hg0⟩ := Option.isSome_iff_exists.mp X.here.top
  obtain ⟨r, hr⟩ := State.topJava?_eq_some.mp hg0
  obtain ⟨t, ht, -⟩ := State.frames_cons hr
  have hcur : (T.setVm s.vm).cur < (T.setVm s.vm).threads.size := State.cur_lt_of_frames hr
  have hfr : (xt_from s T m args below).frames = .invoking m args :: below := State.frames_setFrames _ hcur
  have hlim : e.platform.stackLimits (xt_from s T m args below).me = e.platform.stackLimits s.me := (State.stackLimits_setFrames _ _ _).trans X.limits
  have hbyt : (xt_from s T m args below).me.stackBytes = s.me.stackBytes := (State.stackBytes_setFrames _ _).trans X.bytes
  have hloc : (xt_from s T m args below).localsInUse = s.localsInUse := by
    unfold State.localsInUse
    rw [hfr, X.frames]
    rfl
  have hroom : (xt_from s T m args below).hasRoom e.platform (xt_left R cells slots) = true := by
    have h := X.room
    have h1 := X.heapSize
    have h2 := X.used
    have h3 : (xt_from s T m args below).slotsTrue = true := X.book
    have h4 : (xt_from s T m args below).heap.size = T.heap.size := rfl
    have h5 : (xt_from s T m args below).slotsUsed = T.slotsUsed := rfl
    simp only [State.hasRoom, Bool.and_eq_true, decide_eq_true_eq] at h ⊢
    obtain ⟨⟨⟨⟨a1, a2, a3, a4, a5, a6⟩, a7⟩, a8⟩, a9⟩ := h
    rw [X.frames] at a2 a3
    rw [hloc, hlim, hbyt, hfr, h4, h5]
    refine ⟨⟨⟨⟨a1, a2, a3, a4, a5, a6⟩, ?_⟩, ?_⟩, h3⟩
    · show T.heap.size + (R.cells - cells) ≤ _
      omega
    · show T.slotsUsed + (R.slots - slots) ≤ _
      omega
  have hsame : (xt_from s T m args below).sameButNew (T.setVm s.vm) [] 0 0 := by
    have h1 : (T.setVm s.vm).sameButNew (T.setVm s.vm) [] 0 0 := State.sameButNew.refl (T.setVm s.vm) ht
    obtain ⟨a1, a2⟩ := h1
    refine ⟨?_, a2⟩
    show T.setVm s.vm = { ((T.setVm s.vm).setFrames (.invoking m args :: below)).setFrames (T.setVm s.vm).frames with heap := T.heap, slotsUsed := T.slotsUsed }
    rw [State.setFrames_setFrames]
    exact a1
  exact ⟨X.admits, X.cas, X.clock, hfr, hroom, X.hears, X.method, X.code, X.here, X.tail, X.warmed, X.limits.trans hlim.symm, X.bytes.trans hbyt.symm, hsame⟩
theorem xt_ldcw (X : Stand p l e R s m args below meth c T locs cells slots) (hexec : p.tables.exec = Jvm.exec) {own text : String} {index : Nat} {a : Addr} (hown : s.vm.findClass own = some m.cls)
    (hconst : (Cond.stringRef own index text).before args s = true) (hev : (Term.string own index).eval args s none [] s = some (.ref a)) {g : JFrame} (hg : g.method = m) (hdg : decode c.code g.pc = .ok (.ldc_w index, 3)) :
    ∀ target, Steps p.tables e below (T.setTop { g with pc := g.pc + 3, stack := .ref a :: g.stack }) target → Steps p.tables e below (T.setTop g) target := by
  obtain ⟨k, cf, i, a', hk, hcf, hcp, -, hr, hev'⟩ := Cond.stringRef_spec hown hconst
  cases hev.symm.trans hev'
  obtain ⟨k', hk', he⟩ := X.warmed.alike.2.2 _ _ hk
  have hr' : k'.resolved[index]? = some (some (.string a)) := by
    rcases X.warmed.entry hk hk' index with h | ⟨h, -⟩
    · rw [h]; exact hr
    · rw [hr] at h; cases h
  intro target hrest
  subst hg
  jvm_step X.here [hexec, hdg, ldc_w.wp_string (e := e) (s := T) (f := g) X.here.top hk' (by rw [he]; exact hcf) hcp hr']
  exact hrest
/-- the message's constant, by either instruction -/
def xt_ldcI (ks n : Nat) (i : Instr) : Prop := (i = .ldc ks ∧ n = 2) ∨ (i = .ldc_w ks ∧ n = 3)
theorem xt_ldc (X : Stand p l e R s m args below meth c T locs cells slots) (hexec : p.tables.exec = Jvm.exec) {own text : String} {index n : Nat} {a : Addr} (hown : s.vm.findClass own = some m.cls)
    (hZ : vk_R own index text a s) {g : JFrame} (hg : g.method = m) {i : Instr} (hi : xt_ldcI index n i) (hdg : decode c.code g.pc = .ok (i, n)) :
    ∀ target, Steps p.tables e below (T.setTop { g with pc := g.pc + n, stack := .ref a :: g.stack }) target → Steps p.tables e below (T.setTop g) target := by
  rcases hi with ⟨rfl, rfl⟩ | ⟨rfl, rfl⟩
  · exact X.ldcString hexec hown (text := text) (a := a) hZ.1 hZ.2 hg hdg
  · exact xt_ldcw X hexec hown (text := text) (a := a) hZ.1 hZ.2 hg hdg
/-- a word of the tables, or one of the four on Throwable's statics -/
def xt_wd (w : Cond) : Prop := w ∈ xt_tbl ∨ w = .laysStatic Bundle.tN "UNASSIGNED_STACK" Bundle.steD ∨ w = .laysStatic Bundle.tN "SUPPRESSED_SENTINEL" Bundle.listD ∨ w = .isRef (.static Bundle.tN "UNASSIGNED_STACK" Bundle.steD) ∨ w = .isRef (.static Bundle.tN "SUPPRESSED_SENTINEL" Bundle.listD)
/-- what a throw site wants of the tables: its class's words, its own links -/
def xt_Site (own X : String) (kc ic ks : Nat) (tx : String) (names : List String) : Prop :=
  (Cond.classLink own kc X ∈ xt_tbl ∧ Cond.instantiable X 6 ∈ xt_tbl ∧ Cond.initialized X ∈ xt_tbl ∧ (own, ks, tx) ∈ xt_strs) ∧ (Bundle.fit X = true ∧ ∀ n ∈ names, Bundle.fit n = true) ∧ (∀ w ∈ Bundle.ownAtoms own ic X names, xt_wd w)
theorem xt_wd.use {A : Nat → Prop} {U : State} {w : Cond} (hB : xt_B A U U.heap) (h : xt_wd w) (args : Array Value) : w.before args U = true := by
  rcases h with h | rfl | rfl | rfl | rfl
  · exact hB.1.at args w h
  · exact hB.2.2.1.1.use.1
  · exact hB.2.2.1.2.use.1
  · exact hB.2.2.1.1.use.2
  · exact hB.2.2.1.2.use.2
/-- the class's own words, and the site's link -/
def xt_tail (X : String) : List Cond := (Bundle.ownAtoms "" 0 X []).drop ((Bundle.throwableAtoms ++ Bundle.throwableSAtoms ++ Bundle.chainSAtoms X []).length + 1)
theorem xt_ownSite {own X : String} {ic : Nat} {names : List String} (h1 : ∀ w ∈ Bundle.throwableAtoms ++ Bundle.throwableSAtoms ++ Bundle.chainSAtoms X names, xt_wd w) (h2 : ∀ w ∈ xt_tail X, xt_wd w) (hl : Cond.methodLink own ic (Bundle.initS X) ∈ xt_tbl) : ∀ w ∈ Bundle.ownAtoms own ic X names, xt_wd w := by
  intro w hw
  have hw' : w ∈ (Bundle.throwableAtoms ++ Bundle.throwableSAtoms ++ Bundle.chainSAtoms X names) ++ (.methodLink own ic (Bundle.initS X) :: xt_tail X) := hw
  rcases List.mem_append.mp hw' with h | h
  · exact h1 w h
  · rcases List.mem_cons.mp h with rfl | h
    · exact Or.inl hl
    · exact h2 w h
def xt_wdb (w : Cond) : Bool := (decide (w ∈ tables_1) && xt_ok w) || decide (w = .laysStatic Bundle.tN "UNASSIGNED_STACK" Bundle.steD) || decide (w = .laysStatic Bundle.tN "SUPPRESSED_SENTINEL" Bundle.listD) || decide (w = .isRef (.static Bundle.tN "UNASSIGNED_STACK" Bundle.steD)) || decide (w = .isRef (.static Bundle.tN "SUPPRESSED_SENTINEL" Bundle.listD))
theorem xt_wdOf {L : List Cond} (h : L.all xt_wdb = true) : ∀ w ∈ L, xt_wd w := by
  intro w hw
  have h1 := List.all_eq_true.mp h w hw
  simp only [xt_wdb, Bool.or_eq_true, Bool.and_eq_true, decide_eq_true_eq] at h1
  rcases h1 with (((h1 | h1) | h1) | h1) | h1
  · exact Or.inl (xt_in (List.mem_append_right _ h1.1) h1.2)
  · exact Or.inr (Or.inl h1)
  · exact Or.inr (Or.inr (Or.inl h1))
  · exact Or.inr (Or.inr (Or.inr (Or.inl h1)))
  · exact Or.inr (Or.inr (Or.inr (Or.inr h1)))
theorem xt_l2 {ks : Nat} : xt_ldcI ks 2 (.ldc ks) := Or.inl ⟨rfl, rfl⟩
theorem xt_l3 {ks : Nat} : xt_ldcI ks 3 (.ldc_w ks) := Or.inr ⟨rfl, rfl⟩
theorem xt_heapSame {u U : State} {k n : Nat} (h : u.sameButNew U [] k n) {q : Nat} (hq : q < u.heap.size) : U.heap[q]? = u.heap[q]? := by
  obtain ⟨-, -, -, -, -, h6⟩ := h
  obtain ⟨c', x1, x2, x3, x4⟩ := h6 q _ (Array.getElem?_eq_getElem hq)
  have e : c'.slots = (u.heap[q]).slots := Array.ext_getElem? fun i => x4 i (by simp)
  rw [x1, Array.getElem?_eq_getElem hq, x2, e]
set_option maxHeartbeats 2000000 in
theorem xt_throwRaw {Qc : Array Value → State → Outcome → State → Prop} {free : Addr → Prop} {A : Nat → Prop} {own X tx : String} {names : List String} {kc ic ks n pc : Nat} {ls : Array Slot} {rest : List Value} {i : Instr} {cc : ByteArray}
    (hexec : p.tables.exec = Jvm.exec) (hb : c.code = cc) (hml : c.maxLocals = ls.size) (hlocks : meth.locks = false) (hfl : l.flags = pinnedFlags ++ [noTraceFlag]) (hown : s.vm.findClass own = some m.cls) (hsite : xt_Site own X kc ic ks tx names)
    (hB : xt_B A s s.heap) (hS : va_S A s.heap H locs) (hcells : cells + 1 ≤ R.cells) (hslots : slots + 6 ≤ R.slots) (hRf : names.length + 3 < R.frames) (hRl : (rest.map fun v => v.category).sum + (13 * (names.length + 1) + 43) ≤ R.locals) (htab : c.exceptionTable.toList = [])
    (d0 : decode cc pc = .ok (.new kc, 3)) (d1 : decode cc (pc + 3) = .ok (.dup, 1)) (hi : xt_ldcI ks n i) (d2 : decode cc (pc + 4) = .ok (i, n)) (d3 : decode cc (pc + 4 + n) = .ok (.invokespecial ic, 3)) (d4 : decode cc (pc + 4 + n + 3) = .ok (.athrow, 1))
    (hq : ∀ (a : Nat) (t : State), s.WarmedH t.vm → xt_Ex X a t t.heap → H.size ≤ t.heap.size → (∀ q, q < H.size → t.heap[q]? = H[q]?) → Qc args s (.threw a) t) (hf : ∀ q ∈ locs, free q.base) :
    W p l e R s m args below meth c H locs cells slots (xt_MQ below Qc args s (cells + 1) (slots + 6) free) (F0 m pc ls rest) := by
  intro T hT X0
  subst hb
  subst hT
  obtain ⟨⟨w1, w2, w3, w4⟩, ⟨f1, f2⟩, o1⟩ := hsite
  have X' := xt_rebase X0 (by omega) (by omega)
  have hBs : xt_B A (xt_from s T m args below) (xt_from s T m args below).heap := xt_B.same (u := s) rfl (hB.sub (B := A) hS fun _ h => h)
  have htr : e.platform.stackTraces = false := Launch.traces_off hfl X0.admits
  have hts := hBs.1.at args
  have hown' : (xt_from s T m args below).vm.findClass own = some m.cls := hown
  obtain ⟨vm', cC, kC, hfc, hkC, -, hsz, X1, st1⟩ := X'.newCold hexec hown' (hts _ w1) (hts _ w2) (hts _ w3) (g := F0 m pc ls rest) rfl d0 (by show 0 + 1 ≤ R.cells - cells; omega) (by show 0 + 6 ≤ R.slots - slots; omega)
  obtain ⟨q, hqv⟩ := hBs.2.1 _ w4
  have hcellX : ((T.setVm vm').pushCell { cls := cC, slots := kC.instanceTypes.map defaultValue, vm := .none }).heap[T.heap.size]? = some (freshCell cC kC) := State.heap_pushCell_size _ _
  have hat := fun w hw => (o1 w hw).use hBs args
  obtain ⟨U, stU, hrun, hend, hWU, hsame, ce, hce, hown9⟩ := X1.ctorThrowS hexec htr hown' f1 f2 hat (fun x hx => by cases hx) hfc hkC hcellX (Nat.le_refl _) (msg := .ref q) rfl
    (g := F0 m (pc + 4 + n) ls (.ref q :: .ref T.heap.size :: .ref T.heap.size :: rest)) rfl hml.symm rfl rfl (rest := rest) rfl d3 d4 (fun x hx => by rw [htab] at hx; cases hx) hRf
    (by
      have e0 : ((Value.ref T.heap.size :: rest).map fun v => v.category).sum = 1 + (rest.map fun v => v.category).sum := by rw [List.map_cons, List.sum_cons]; rfl
      show 2 * 0 + ((Value.ref T.heap.size :: rest).map fun v => v.category).sum + (13 * (names.length + 1) + 42) ≤ R.locals
      rw [e0]
      omega) (hlocks := hlocks)
  have hsame' : T.sameButNew ({ U with vm := T.vm } : State) [] 1 6 := by
    obtain ⟨a1, a2, a3, a4, a5, a6⟩ := hsame
    have a1' : ({ U with vm := s.vm } : State) = { (T.setVm s.vm).setFrames U.frames with heap := U.heap, slotsUsed := U.slotsUsed } := a1.trans (by
      show ({ ((T.setVm s.vm).setFrames (.invoking m args :: below)).setFrames U.frames with heap := U.heap, slotsUsed := U.slotsUsed } : State) = _
      rw [State.setFrames_setFrames])
    exact ⟨congrArg (fun z : State => ({ z with vm := T.vm } : State)) a1', a2, a3, a4, a5, a6⟩
  have hsz9 : T.heap.size ≤ U.heap.size := hsame'.2.1
  have hS9 : s.sameButNew ({ U with vm := s.vm } : State) locs (cells + 1) (slots + 6) := by
    have h1 := X0.same.trans (hsame'.setVm s.vm)
    rw [List.append_nil] at h1
    exact h1
  have hW9 : s.WarmedH U.vm := hWU
  have hex : xt_Ex X T.heap.size U U.heap := ⟨ce, hce, hown9.vm, by rw [hW9.alike.findClass]; exact hown9.cls⟩
  refine ⟨U, st1 _ ?_, .threw T.heap.size, hrun, hend, hq _ U hW9 hex hsz9 (fun q hq => xt_heapSame hsame' hq), locs, ⟨hW9, hS9⟩, hf⟩
  have hat2 := X1.here
  jvm_step X1.here [hexec, d1]
  refine ⟨F0 m (pc + 3) ls (.ref T.heap.size :: rest), State.topJava?_setTop' _ X1.here.top, .ref T.heap.size, rest, rfl, rfl, ?_⟩
  refine xt_ldc X1 hexec hown' hqv (g := F0 m (pc + 4) ls (.ref T.heap.size :: .ref T.heap.size :: rest)) rfl hi d2 _ ?_
  exact stU
end XTF
section XTG
variable {p : Program} {l : Launch} {e : Env} {R : Room} {s : State} {m : MethodId} {args : Array Value} {below : List Frame} {meth : Method} {c : Code} {H : Heap} {locs : List Loc} {cells slots : Nat}
variable {D : va_G} {cl : List vw_C} {A : Nat → Prop} {tys : List (ClassId × FieldType)} {ws : va_W}
/-- a method's end by a throw of its own -/
theorem xt_throw {S : Type} {post : Option Value → S → Prop} {thr : String → S → Prop} {W1 : S → va_W} {T1 : S → List (ClassId × FieldType)} {own X tx : String} {names : List String} {kc ic ks n pc : Nat} {ls : Array Slot} {rest : List Value} {i : Instr} {cc : ByteArray}
    (hexec : p.tables.exec = Jvm.exec) (hb : c.code = cc) (hml : c.maxLocals = ls.size) (hlocks : meth.locks = false) (hfl : l.flags = pinnedFlags ++ [noTraceFlag]) (hown : s.vm.findClass own = some m.cls) (hsite : xt_Site own X kc ic ks tx names)
    (hB : xt_B A s s.heap) (hS : va_S A s.heap H locs) (hcells : cells + 1 ≤ R.cells) (hslots : slots + 6 ≤ R.slots) (hRf : names.length + 3 < R.frames) (hRl : (rest.map fun v => v.category).sum + (13 * (names.length + 1) + 43) ≤ R.locals) (htab : c.exceptionTable.toList = [])
    (d0 : decode cc pc = .ok (.new kc, 3)) (d1 : decode cc (pc + 3) = .ok (.dup, 1)) (hi : xt_ldcI ks n i) (d2 : decode cc (pc + 4) = .ok (i, n)) (d3 : decode cc (pc + 4 + n) = .ok (.invokespecial ic, 3)) (d4 : decode cc (pc + 4 + n + 3) = .ok (.athrow, 1))
    (hP : va_P D cl ws H) (hD : va_D A ws) (hK : va_K D cl tys s) (u : S) (hth : thr X u) (hu1 : W1 u = ws) (hu2 : T1 u = tys) :
    W p l e R s m args below meth c H locs cells slots (xt_MQ below (xt_Q D cl A post thr W1 T1) args s (cells + 1) (slots + 6) A) (F0 m pc ls rest) := by
  refine xt_throwRaw hexec hb hml hlocks hfl hown hsite hB hS hcells hslots hRf hRl htab d0 d1 hi d2 d3 d4 (fun a t hW hex hz hk => ?_) hS.2.2
  refine ⟨u, Or.inr ⟨X, a, rfl, hth, hex⟩, ?_, ?_, ?_, ?_⟩
  · rw [hu1]; exact hP.kept (fun k x hx => hk x.1 ((hP k x hx).lt))
  · rw [hu2]; exact va_K.moved hW.alike hK
  · rw [hu1]; exact hD
  · exact ⟨Nat.le_trans hS.1 hz, fun q h1 h2 => by rw [hk q (Nat.lt_of_lt_of_le h1 hS.1)]; exact hS.2.1 q h1 h2⟩
/-- a callee's throw goes on through this method -/
theorem xt_pass {S : Type} {post : Option Value → S → Prop} {thr : String → S → Prop} {W1 : S → va_W} {T1 : S → List (ClassId × FieldType)} {X : String} {a pc : Nat} {ls : Array Slot} {st : List Value} (hlocks : meth.locks = false) (hout : ∀ x ∈ c.exceptionTable.toList, covers x pc = false)
    (hP : va_P D cl ws H) (hD : va_D A ws) (hK : va_K D cl tys s) (hS : va_S A s.heap H locs) (hex : xt_Ex X a s H) (u : S) (hth : thr X u) (is : List Nat) (isT : List Nat) (hu1 : is.map (fun i => ws[i]?) = (W1 u).map some) (hn : va_nd is = true) (hu2 : isT.filterMap (fun i => tys[i]?) = T1 u) :
    xt_WT p l e R s m args below meth c H locs cells slots (xt_MQ below (xt_Q D cl A post thr W1 T1) args s cells slots A) (F0 m pc ls st) a :=
  xt_leave hlocks hout (fun t ht hW => ⟨u, Or.inr ⟨X, a, rfl, hth, by rw [ht]; exact hex.moved hW.alike⟩, by rw [ht]; exact hP.sub is (xt_fm hu1), va_K.moved hW.alike (hK.sub isT hu2), hD.sub is hn hu1, hS.F ht⟩) hS.2.2
end XTG
