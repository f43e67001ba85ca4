-- the statics that are tables
def xb_T1 (C n d : String) (ty : FieldType) (L : List Int32) (A : Nat → Prop) (U : State) (H : Heap) : Prop := ∃ t : Nat, va_Z C n d (.ref t) A U H ∧ va_T ty t L.length (fun j => .int (L.getD j 0)) A U H
theorem xb_T1.moved {C n d : String} {ty : FieldType} {L : List Int32} {A : Nat → Prop} {u U : State} {H : Heap} (hvm : u.vm.Alike U.vm) (h : xb_T1 C n d ty L A u H) : xb_T1 C n d ty L A U H := by
  obtain ⟨t, h1, h2⟩ := h
  exact ⟨t, h1.moved hvm, h2.moved hvm⟩
theorem xb_T1.kept {C n d : String} {ty : FieldType} {L : List Int32} {A : Nat → Prop} {U : State} {H H1 : Heap} (h : xb_T1 C n d ty L A U H) (hq : ∀ a : Nat, a < H.size → ¬ A a → H1[a]? = H[a]?) : xb_T1 C n d ty L A U H1 := by
  obtain ⟨t, h1, h2⟩ := h
  exact ⟨t, h1.kept hq, h2.kept hq⟩
def xb_St (σ : Nat) (A : Nat → Prop) (U : State) (H : Heap) : Prop :=
  xb_T1 "StackHost$Checker" "SIGNATURES" "[I" .int xb_cSIG A U H ∧ xb_T1 "StackHost" "MEMORY_TYPES" "[I" .int xb_cMT A U H ∧ xb_T1 "StackHost" "MEMORY_BYTES" "[I" .int xb_cMB A U H ∧ xb_T1 "StackHost" "HOST_EXPORTS" "[B" .byte xb_cHX A U H ∧ va_Z "StackHost" "HOST_NAME" "[B" (.ref σ) A U H ∧ va_T .byte σ 4 (fun j => .int (xb_cHN.getD j 0)) A U H
def xb_B (A : Nat → Prop) (σ : Nat) (U : State) (H : Heap) : Prop := xt_B A U H ∧ xb_St σ A U H
theorem xb_B.warm {A : Nat → Prop} {σ : Nat} {s U : State} {H : Heap} (h : xb_B A σ s H) (hW : s.WarmedH U.vm) : xb_B A σ U H := by
  obtain ⟨h0, h1, h2, h3, h4, h5, h6⟩ := h
  exact ⟨h0.warm hW, h1.moved hW.alike, h2.moved hW.alike, h3.moved hW.alike, h4.moved hW.alike, h5.moved hW.alike, h6.moved hW.alike⟩
theorem xb_B.same {A : Nat → Prop} {σ : Nat} {u U : State} {H : Heap} (hv : U.vm = u.vm) (h : xb_B A σ u H) : xb_B A σ U H := h.warm (by rw [hv]; exact State.WarmedH.refl u)
theorem xb_B.sub {A : Nat → Prop} {σ : Nat} {U : State} {H H1 : Heap} {locs : List Loc} (h : xb_B A σ U H) (hS : va_S A H H1 locs) : xb_B A σ U H1 := by
  obtain ⟨h0, h1, h2, h3, h4, h5, h6⟩ := h
  exact ⟨h0.sub hS (fun _ h => h), h1.kept hS.2.1, h2.kept hS.2.1, h3.kept hS.2.1, h4.kept hS.2.1, h5.kept hS.2.1, h6.kept hS.2.1⟩
-- kinds and lengths stay
def xb_Pc (D : va_G) (A : Nat → Prop) (σ : Nat) (h : xb_H) (av : List Value) : Array Value → State → Prop := fun v U =>
  v = av.toArray ∧ (∀ q, U.heap.size ≤ q → A q) ∧ xb_B A σ U U.heap ∧ xb_R D A h U U.heap
def xb_Qc (D : va_G) (A : Nat → Prop) (h0 : xb_H) (MC MS : Nat) (Qr : Option Value → xb_H → Nat → Nat → Prop) (Qt : String → xb_H → Nat → Nat → Prop) : Array Value → State → Outcome → State → Nat → Nat → Prop := fun _ st oc t k n =>
  ∃ (h' : xb_H) (bc bs : Nat), k + bc ≤ MC ∧ n + bs ≤ MS ∧ xb_ext h0 h' ∧ xb_R D A h' t t.heap ∧ va_F A st t ∧ ((∃ v, oc = .returned v ∧ Qr v h' bc bs) ∨ ∃ (X : String) (a : Nat), oc = .threw a ∧ Qt X h' bc bs ∧ xt_Ex X a t t.heap)
/-- a method's contract, for both ends; what it took is known at its end -/
def xb_Met (l : Launch) (y : MethodName) (ws : List Cond) (rm : Room) (Pc : Array Value → State → Prop) (Qc : Array Value → State → Outcome → State → Nat → Nat → Prop) (free : Addr → Prop) : Prop :=
  MetFree l y (headSpec ws rm) Pc (fun _ _ _ _ _ => True) (fun a st o t => ∃ k n : Nat, Qc a st o t k n ∧ ∃ L, xt_End st t L k n ∧ ∀ q ∈ L, free q.base)
def xb_MQ (below : List Frame) (Qc : Array Value → State → Outcome → State → Nat → Nat → Prop) (a : Array Value) (s : State) (free : Addr → Prop) : State → Prop := fun t =>
  ∃ k n : Nat, xt_MQ below (fun a s o t => Qc a s o t k n) a s k n free t
section XBM
variable {l : Launch}
theorem xb_ofW {y : MethodName} {ws : List Cond} {rm : Room} {Pc : Array Value → State → Prop} {Qc : Array Value → State → Outcome → State → Nat → Nat → Prop} {free : Addr → Prop} {cc : ByteArray} {maxL : Nat} {ret : Option FieldType}
    (hy : plainName y.cls = true) (hw : Cond.code y cc maxL ret ∈ ws)
    (body : ∀ p e s m args below meth c s₁, BodyLoose p l y (headSpec ws rm) cc maxL ret e s m args below meth c s₁ → c.maxLocals = maxL → c.exceptionTable.toList = [] → Pc args s →
      W p l e rm s m args below meth c s.heap [] 0 0 (xb_MQ below Qc args s free) (entryFrame m args maxL)) : xb_Met l y ws rm Pc Qc free := by
  refine MetFree.of_bodyS (code := cc) (maxLocals := maxL) (ret := ret) hy ?_ ?_
  · intro args s m h hn
    obtain ⟨meth, c, h1, h2, h3, h4, h5, h6, -, -⟩ := Cond.code_spec hn (atoms_spec (ws := ws) h _ hw)
    exact ⟨meth, c, h1, h2, h3, h4, h5, h6⟩
  · intro p e s m args below meth c s₁ B hml hP _
    have hh0 : s₁.heap = s.heap := by rw [B.state]; rfl
    have ht : c.exceptionTable.toList = [] := by
      have h0 := BodyLoose.noHandlers B (atoms_spec (ws := ws) B.pre _ hw)
      have h1 : c.exceptionTable.size = 0 := by simpa [Array.isEmpty] using h0
      exact List.eq_nil_of_length_eq_zero (by simpa using h1)
    obtain ⟨t, a1, k, n, o, b1, b2, b3⟩ := body p e s m args below meth c s₁ B hml ht hP s₁ hh0 (Stand.of_body B)
    exact ⟨t, o, a1, b1, b2, ⟨k, n, b3.1, b3.2⟩⟩
theorem xb_ofWH {y : MethodName} {ws : List Cond} {rm : Room} {Pc : Array Value → State → Prop} {Qc : Array Value → State → Outcome → State → Nat → Nat → Prop} {free : Addr → Prop} {cc : ByteArray} {maxL : Nat} {ret : Option FieldType} {hh : List (Nat × Nat × Nat × Nat)}
    (hy : plainName y.cls = true) (hw : Cond.codeWith y cc maxL ret hh ∈ ws)
    (body : ∀ p e s m args below meth c s₁, BodyLoose p l y (headSpec ws rm) cc maxL ret e s m args below meth c s₁ → c.maxLocals = maxL → c.exceptionTable.toList = tableOf hh → Pc args s →
      W p l e rm s m args below meth c s.heap [] 0 0 (xb_MQ below Qc args s free) (entryFrame m args maxL)) : xb_Met l y ws rm Pc Qc free := by
  refine MetFree.of_bodyS (code := cc) (maxLocals := maxL) (ret := ret) hy ?_ ?_
  · intro args s m h hn
    obtain ⟨m9, meth, c, hn9, h1, h2, h3, h4, -, h5, h6, -⟩ := Cond.codeWith_spec (atoms_spec (ws := ws) h _ hw)
    cases hn.symm.trans hn9
    exact ⟨meth, c, h1, h2, h3, h4, h5, h6⟩
  · intro p e s m args below meth c s₁ B hml hP _
    have hh0 : s₁.heap = s.heap := by rw [B.state]; rfl
    have X := Stand.of_body B
    have ht : c.exceptionTable.toList = tableOf hh := by
      obtain ⟨m9, meth9, c9, hn9, h1, h2, -, -, h5, -⟩ := Cond.codeWith_spec (atoms_spec (ws := ws) B.pre _ hw)
      cases B.named.symm.trans hn9
      cases B.method.symm.trans h1
      cases X.code.symm.trans h2
      rw [← h5, table_eq]
    obtain ⟨t, a1, k, n, o, b1, b2, b3⟩ := body p e s m args below meth c s₁ B hml ht hP s₁ hh0 X
    exact ⟨t, o, a1, b1, b2, ⟨k, n, b3.1, b3.2⟩⟩
end XBM
theorem xb_blind {D : va_G} {A : Nat → Prop} {σ : Nat} {h : xb_H} {av : List Value} : FrameBlind (xb_Pc D A σ h av) := by
  intro a U g mk hp
  obtain ⟨h1, h2, h3, h4⟩ := hp
  exact ⟨h1, h2, xb_B.same (u := U) rfl h3, xb_R.moved (u := U) (U := U.calling g mk a) (Vm.Alike.refl U.vm) h4⟩
section XBB
def xb_Post (Qc : Array Value → State → Outcome → State → Nat → Nat → Prop) (free : Addr → Prop) : Pt → Array Value → Outcome → Pt → Prop := fun A a o B =>
  ∃ (g : JFrame) (mk : MethodId) (t : State) (L : List Loc) (k n : Nat), B.U.heap = t.heap ∧ B.U.vm = t.vm ∧ Qc a (A.U.calling g mk a) o t k n ∧ B.locs = A.locs ++ L ∧ (∀ q ∈ L, free q.base) ∧ B.cells = A.cells + k ∧ B.slots = A.slots + n
variable {l : Launch} {R : Room} {p : Program} {e : Env} {below : List Frame} {s : State} {sargs : Array Value} {y : MethodName} {len w : Nat}
theorem xb_back {ws : List Cond} {rm : Room} {Pc : Array Value → State → Prop} {Qc : Array Value → State → Outcome → State → Nat → Nat → Prop} {mc ms : Nat} {free : Addr → Prop} {maxL : Nat}
    (hM : xb_Met l y ws rm Pc Qc free) (hblind : FrameBlind Pc) (hrc : rm.cells = mc) (hrs : rm.slots = ms)
    (hframes : rm.frames + 1 ≤ R.frames) (hlocals : w + (maxL + 11) + rm.locals ≤ R.locals)
    (hws : ∀ w ∈ ws, ∀ a' U, s.WarmedH U.vm → w.before a' U = true) (hcd : ∀ U : State, s.WarmedH U.vm → xt_cd y maxL U) (hinit : ∀ a' U, s.WarmedH U.vm → (Cond.initialized y.cls).before a' U = true) :
    xt_Back l R p e below s sargs y len w (PreOf R mc ms Pc) (xb_Post Qc free) := by
  intro m meth c A g ig mk a X hg hsize hdg hW hn hp
  obtain ⟨U, Ls, c0, s0⟩ := A
  obtain ⟨h4, h5, hpc⟩ := hp
  dsimp only [Pt.U, Pt.locs, Pt.cells, Pt.slots] at h4 h5 hpc X hn ⊢
  obtain ⟨methY, cY, hmY, hcY, hlY⟩ := hcd U X.warmed mk hn
  obtain ⟨kY, hkY, -⟩ := className_of_methodNamed hn
  have hinitY : kY.init = .initialized := Cond.initialized_spec (findClass_of_methodNamed hn) hkY (hinit a U X.warmed)
  have h : At U g.method c below := by rw [hg]; exact X.here
  have happ : (headSpec ws rm).appliesLoose y e.platform (U.calling g mk a) = true :=
    Spec.appliesLoose_calling (g := g) h hdg hn hkY hinitY
      (X.room_calling (g := g) (R' := (headSpec ws rm).room) hsize hmY hcY hframes (by rw [hlY]; show 2 * g.monitorRoom + (g.stack.map fun v => v.category).sum + (maxL + 11) + rm.locals ≤ R.locals; omega) (by show c0 + rm.cells ≤ R.cells; rw [hrc]; exact h4) (by show s0 + rm.slots ≤ R.slots; rw [hrs]; exact h5)) (atoms_intro fun w hw => hws w hw _ _ X.warmed)
  obtain ⟨mid, hmid⟩ := h.above
  have hfr : (U.setTop g).frames = (.java g :: mid) ++ below := by rw [State.frames_setTop' g h.top, hmid]; rfl
  obtain ⟨o, s₂, hsteps, -, hend, hq⟩ := Steps.callFree hM p X.admits X.cas X.clock (acts := []) hfr happ (hblind _ _ _ _ hpc) trivial
  rw [State.frames_setTop' g h.top] at hend
  have hq0 : ∃ k n : Nat, Qc a (U.calling g mk a) o s₂ k n ∧ ∃ L, xt_End (U.calling g mk a) s₂ L k n ∧ ∀ q ∈ L, free q.base := hq
  obtain ⟨k9, n9, hq', L, ⟨hW₂, e2, q2, q3, q4, q5, q6⟩, hL⟩ := hq0
  have e3 : s₂ = ({ (U.calling g mk a).setFrames s₂.frames with heap := s₂.heap, slotsUsed := s₂.slotsUsed } : State).setVm s₂.vm := by
    have : s₂ = ({ s₂ with vm := (U.calling g mk a).vm } : State).setVm s₂.vm := rfl
    rw [e2] at this
    exact this
  have hW' : U.WarmedH s₂.vm := hW₂
  obtain ⟨g₀, hg0⟩ := Option.isSome_iff_exists.mp h.top
  obtain ⟨r, hr⟩ := State.topJava?_eq_some.mp hg0
  have hr' : (({ U with heap := s₂.heap, slotsUsed := s₂.slotsUsed } : State).setVm s₂.vm).frames = .java g₀ :: r := hr
  have hs₂ : s₂ = xt_aft (({ U with heap := s₂.heap, slotsUsed := s₂.slotsUsed } : State).setVm s₂.vm) g len o := by
    cases o with
    | returned v =>
      obtain ⟨c₂, i₂, len₂, hc₂, hd₂, hf₂⟩ := hend
      have hcc : c₂ = c := by
        have h1 : s₂.code? g.method = U.code? g.method := by
          rw [State.code?_eq, State.code?_eq, hW'.alike.method?]
        exact Option.some.inj (hc₂.symm.trans (h1.trans h.code))
      subst hcc
      have hlen : len₂ = len := by rw [hdg] at hd₂; cases hd₂; rfl
      subst hlen
      refine e3.trans ?_
      show _ = (({ U with heap := s₂.heap, slotsUsed := s₂.slotsUsed } : State).setVm s₂.vm).setTop { g with pc := g.pc + len₂, stack := v.toList ++ g.stack }
      rw [hf₂, State.calling_eq h.top, State.setFrames_setFrames, State.setTop_of_frames _ hr', hr]
      rfl
    | threw b =>
      have hf₂ : s₂.frames = .throwing b :: .java g :: U.frames.tail := hend
      refine e3.trans ?_
      show _ = ((({ U with heap := s₂.heap, slotsUsed := s₂.slotsUsed } : State).setVm s₂.vm).setTop g).pushFrame (.throwing b)
      rw [State.pushFrame, State.frames_setTop _ hr', State.setTop_of_frames _ hr', State.setFrames_setFrames, hf₂, State.calling_eq h.top, State.setFrames_setFrames, hr]
      rfl
  have hsame : U.sameButNew ({ U with heap := s₂.heap, slotsUsed := s₂.slotsUsed } : State) L k9 n9 := by
    refine ⟨?_, q2, q3, q4, q5, q6⟩
    obtain ⟨t, ht, -⟩ := State.frames_cons hr
    show ({ U with heap := s₂.heap, slotsUsed := s₂.slotsUsed } : State) = { U.setFrames U.frames with heap := s₂.heap, slotsUsed := s₂.slotsUsed }
    rw [State.setFrames_self ht]
  subst hg
  refine ⟨o, ⟨(({ U with heap := s₂.heap, slotsUsed := s₂.slotsUsed } : State).setVm s₂.vm), Ls ++ L, c0 + k9, s0 + n9⟩,
    ⟨X.admits, X.cas, X.clock, X.frames, X.room, X.hears, X.method, X.code, (X.here.setHeapUsed s₂.heap s₂.slotsUsed).setVm hW'.alike, X.tail, State.WarmedH.trans X.warmed hW', X.limits, X.bytes, X.same.trans (hsame.setVm s.vm)⟩,
    ⟨g, mk, s₂, L, k9, n9, rfl, rfl, hq', rfl, hL, rfl, rfl⟩, ?_⟩
  show Steps p.tables e below _ (xt_aft (({ U with heap := s₂.heap, slotsUsed := s₂.slotsUsed } : State).setVm s₂.vm) g len o)
  rw [← hs₂]
  exact hsteps
end XBB
abbrev xb_rm (d bc bs : Nat) : Room := { frames := 8 + d, cells := bc, slots := bs, locals := 120 + 100 * d }
section XBD
variable {p : Program} {l : Launch} {e : Env} {R : Room} {s : State} {m : MethodId} {args : Array Value} {below : List Frame} {meth : Method} {c : Code} {H : Heap} {locs : List Loc} {cells slots : Nat} {Q : State → Prop} {pc : Nat} {ls : Array Slot} {rest : List Value} {cc : ByteArray}
variable {D : va_G} {A : Nat → Prop} {σ : Nat} {h : xb_H}
theorem xb_call {y : MethodName} {wy : List Cond} {d mc ms maxL : Nat} {av : List Value} {Qr : Option Value → xb_H → Nat → Nat → Prop} {Qt : String → xb_H → Nat → Nat → Prop} {st0 : List Value} {ig : Instr}
    (hinv : ∀ T : State, T.heap = H → Stand p l e R s m args below meth c T locs cells slots → xt_Inv p l e R s m args below meth c T locs cells slots (F0 m pc ls st0) rest y av)
    (hM : xb_Met l y wy (xb_rm d mc ms) (xb_Pc D A σ h av) (xb_Qc D A h mc ms Qr Qt) A)
    (hml : c.maxLocals = ls.size) (hdg : decode c.code pc = .ok (ig, 3)) (hwt : (rest.map fun v => v.category).sum ≤ 20)
    (hfr : 8 + d + 1 ≤ R.frames) (hlo : 20 + (maxL + 11) + (120 + 100 * d) ≤ R.locals) (hfc : cells + mc ≤ R.cells) (hfs : slots + ms ≤ R.slots)
    (hws : ∀ w ∈ wy, ∀ a' U, s.WarmedH U.vm → w.before a' U = true) (hcd : ∀ U : State, s.WarmedH U.vm → xt_cd y maxL U) (hinit : (Cond.initialized y.cls).before args s = true)
    (hB : xb_B A σ s s.heap) (hR : xb_R D A h s H) (hS : va_S A s.heap H locs) (hA : ∀ q, s.heap.size ≤ q → A q)
    (kr : ∀ (v : Option Value) (h' : xb_H) (bc bs k n : Nat) (H1 : Heap) (locs1 : List Loc), k + bc ≤ mc → n + bs ≤ ms → Qr v h' bc bs → xb_ext h h' → xb_R D A h' s H1 → va_S A s.heap H1 locs1 → W p l e R s m args below meth c H1 locs1 (cells + k) (slots + n) Q (F0 m (pc + 3) ls (v.toList ++ rest)))
    (kt : ∀ (X : String) (a : Nat) (h' : xb_H) (bc bs k n : Nat) (H1 : Heap) (locs1 : List Loc), k + bc ≤ mc → n + bs ≤ ms → Qt X h' bc bs → xb_ext h h' → xt_Ex X a s H1 → xb_R D A h' s H1 → va_S A s.heap H1 locs1 → xt_WT p l e R s m args below meth c H1 locs1 (cells + k) (slots + n) Q (F0 m pc ls rest) a) :
    W p l e R s m args below meth c H locs cells slots Q (F0 m pc ls st0) := by
  intro T hTH X
  obtain ⟨vm₁, mk, X₁, hnm, hstep⟩ := hinv T hTH X
  have hK9 : xt_Back l R p e below s args y 3 20 (PreOf R mc ms (xb_Pc D A σ h av)) (xb_Post (xb_Qc D A h mc ms Qr Qt) A) :=
    xb_back (maxL := maxL) hM xb_blind rfl rfl hfr hlo hws hcd (fun a' U hW => word_at hW (Or.inl (by first | rfl | simp [Cond.onTables, Cond.keeps, Cond.steady])) hinit)
  have hpre : xb_Pc D A σ h av av.toArray (T.setVm vm₁) := by
    have hh : (T.setVm vm₁).heap = H := hTH
    exact ⟨rfl, fun q hq => hA q (Nat.le_trans hS.1 (by rw [hh] at hq; exact hq)), by rw [hh]; exact (hB.sub hS).warm X₁.warmed, by rw [hh]; exact xb_R.moved X₁.warmed.alike hR⟩
  obtain ⟨o, ⟨U', l2, c2, s2⟩, X', ⟨g', mk', t, L, k9, n9, e1, e2, ⟨h', bc9, bs9, hb9, hb8, hE1, hR1, ⟨hz, hk⟩, ho⟩, h1, hL, h2, h3⟩, st⟩ := hK9 m meth c ⟨T.setVm vm₁, locs, cells, slots⟩ (F0 m pc ls rest) ig mk av.toArray X₁ rfl hml.symm hdg (by simpa [JFrame.monitorRoom] using hwt) hnm ⟨hfc, hfs, hpre⟩
  dsimp only [Pt.U, Pt.locs, Pt.cells, Pt.slots] at X' e1 e2 h1 h2 h3 st
  subst h1; subst h2; subst h3
  have hst : ((T.setVm vm₁).calling g' mk' av.toArray).heap = H := hTH
  rw [hst] at hz hk
  rw [← e1] at hR1 hz hk
  have hsz : s.vm.Alike t.vm := by rw [← e2]; exact X'.warmed.alike
  have hR2 : xb_R D A h' s U'.heap := xb_R.moved hsz.symm hR1
  have hSj : va_S A s.heap U'.heap (locs ++ L) := ⟨Nat.le_trans hS.1 hz, fun q h1 h2 => by rw [hk q (Nat.lt_of_lt_of_le h1 hS.1) h2]; exact hS.2.1 q h1 h2, fun q hq => by
    rcases List.mem_append.mp hq with h | h
    · exact hS.2.2 q h
    · exact hL q h⟩
  rcases ho with ⟨v, rfl, hp⟩ | ⟨Xn, a, rfl, hth, hex⟩
  · obtain ⟨t2, a1, b1⟩ := kr v h' bc9 bs9 k9 n9 U'.heap (locs ++ L) hb9 hb8 hp hE1 hR2 hSj U' rfl X'
    exact ⟨t2, hstep t2 fun acts => by rw [doInvoke_state]; exact st.trans a1, b1⟩
  · obtain ⟨t2, a1, b1⟩ := kt Xn a h' bc9 bs9 k9 n9 U'.heap (locs ++ L) hb9 hb8 hth hE1 (by rw [e1]; exact hex.moved hsz.symm) hR2 hSj U' rfl X'
    exact ⟨t2, hstep t2 fun acts => by rw [doInvoke_state]; exact st.trans a1, b1⟩
theorem xb_call0 {y : MethodName} {wy : List Cond} {d maxL : Nat} {av : List Value} {Qr : Option Value → xb_H → Prop} {st0 : List Value} {ig : Instr}
    (hinv : ∀ T : State, T.heap = H → Stand p l e R s m args below meth c T locs cells slots → xt_Inv p l e R s m args below meth c T locs cells slots (F0 m pc ls st0) rest y av)
    (hM : xb_Met l y wy (xb_rm d 0 0) (xb_Pc D A σ h av) (xb_Qc D A h 0 0 (fun v h _ _ => Qr v h) (fun _ _ _ _ => False)) A)
    (hml : c.maxLocals = ls.size) (hdg : decode c.code pc = .ok (ig, 3)) (hwt : (rest.map fun v => v.category).sum ≤ 20)
    (hfr : 8 + d + 1 ≤ R.frames) (hlo : 20 + (maxL + 11) + (120 + 100 * d) ≤ R.locals) (hfc : cells ≤ R.cells) (hfs : slots ≤ R.slots)
    (hws : ∀ w ∈ wy, ∀ a' U, s.WarmedH U.vm → w.before a' U = true) (hcd : ∀ U : State, s.WarmedH U.vm → xt_cd y maxL U) (hinit : (Cond.initialized y.cls).before args s = true)
    (hB : xb_B A σ s s.heap) (hR : xb_R D A h s H) (hS : va_S A s.heap H locs) (hA : ∀ q, s.heap.size ≤ q → A q)
    (kr : ∀ (v : Option Value) (h' : xb_H) (H1 : Heap) (locs1 : List Loc), Qr v h' → xb_ext h h' → xb_R D A h' s H1 → va_S A s.heap H1 locs1 → W p l e R s m args below meth c H1 locs1 cells slots Q (F0 m (pc + 3) ls (v.toList ++ rest))) :
    W p l e R s m args below meth c H locs cells slots Q (F0 m pc ls st0) := by
  refine xb_call hinv hM hml hdg hwt hfr hlo hfc hfs hws hcd hinit hB hR hS hA (fun v h' bc bs k n H1 locs1 h1 h2 h3 h4 h5 h6 => ?_) (fun X a h' bc bs k n H1 locs1 h1 h2 h3 => False.elim h3)
  obtain rfl : k = 0 := by omega
  obtain rfl : n = 0 := by omega
  exact kr v h' H1 locs1 h3 h4 h5 h6
/-- a method's end by a throw of its own -/
theorem xb_toMQ {Qc : Array Value → State → Outcome → State → Nat → Nat → Prop} {a : Array Value} {mc ms : Nat} {free : Addr → Prop} (t : State) (h : MQ below (fun a s o t => Qc a s o t mc ms) a s mc ms free t) : xb_MQ below Qc a s free t := ⟨mc, ms, xt_ofMQ t h⟩
theorem xb_throw {h0 : xb_H} {Qr : Option Value → xb_H → Nat → Nat → Prop} {Qt : String → xb_H → Nat → Nat → Prop} {own X tx : String} {names : List String} {kc ic ks n d MC MS bc bs : Nat} {i : Instr}
    (hexec : p.tables.exec = Jvm.exec) (hb : c.code = cc) (hml : c.maxLocals = ls.size) (hlocks : meth.locks = false) (hfl : l.flags = pinnedFlags ++ [noTraceFlag]) (hown : s.vm.findClass own = some m.cls) (hsite : xt_Site own X kc ic ks tx names)
    (hB : xb_B A σ s s.heap) (hS : va_S A s.heap H locs) (hcells : cells + bc ≤ MC) (hslots : slots + bs ≤ MS) (hbc : 1 ≤ bc) (hbs : 6 ≤ bs) (hRf : names.length + 3 < 8 + d) (hRl : (rest.map fun v => v.category).sum + (13 * (names.length + 1) + 43) ≤ 120 + 100 * d) (htab : c.exceptionTable.toList = [])
    (d0 : decode cc pc = .ok (.new kc, 3)) (d1 : decode cc (pc + 3) = .ok (.dup, 1)) (hi : xt_ldcI ks n i) (d2 : decode cc (pc + 4) = .ok (i, n)) (d3 : decode cc (pc + 4 + n) = .ok (.invokespecial ic, 3)) (d4 : decode cc (pc + 4 + n + 3) = .ok (.athrow, 1))
    (hE : xb_ext h0 h) (hR : xb_R D A h s H) (hq : Qt X h (bc - 1) (bs - 6)) :
    W p l e (xb_rm d MC MS) s m args below meth c H locs cells slots (xb_MQ below (xb_Qc D A h0 MC MS Qr Qt) args s A) (F0 m pc ls rest) := by
  refine xt_mono (fun t ht => ⟨cells + 1, slots + 6, ht⟩) (xt_throwRaw hexec hb hml hlocks hfl hown hsite hB.1 hS (show cells + 1 ≤ MC by omega) (show slots + 6 ≤ MS by omega) hRf hRl htab d0 d1 hi d2 d3 d4 (fun a t hW hex hz hk => ?_) hS.2.2)
  refine ⟨h, bc - 1, bs - 6, by omega, by omega, hE, xb_R.moved hW.alike (hR.grown hk), ⟨Nat.le_trans hS.1 hz, fun q h1 h2 => by rw [hk q (Nat.lt_of_lt_of_le h1 hS.1)]; exact hS.2.1 q h1 h2⟩, Or.inr ⟨X, a, rfl, hq, hex⟩⟩
/-- a callee's throw goes on through this method -/
theorem xb_pass {h0 : xb_H} {Qr : Option Value → xb_H → Nat → Nat → Prop} {Qt : String → xb_H → Nat → Nat → Prop} {X : String} {a MC MS bc bs : Nat} {st : List Value} (hlocks : meth.locks = false) (hout : ∀ x ∈ c.exceptionTable.toList, covers x pc = false)
    (hcells : cells + bc ≤ MC) (hslots : slots + bs ≤ MS) (hE : xb_ext h0 h) (hR : xb_R D A h s H) (hS : va_S A s.heap H locs) (hex : xt_Ex X a s H) (hq : Qt X h bc bs) :
    xt_WT p l e R s m args below meth c H locs cells slots (xb_MQ below (xb_Qc D A h0 MC MS Qr Qt) args s A) (F0 m pc ls st) a := by
  have hk := xt_leave (p := p) (l := l) (e := e) (R := R) (below := below) (H := H) (cells := cells) (slots := slots) (Qc := fun a s o t => xb_Qc D A h0 MC MS Qr Qt a s o t cells slots) (free := A) (args := args) (a := a) (pc := pc) (ls := ls) (st := st) (m := m) hlocks hout (fun t ht hW => ⟨h, bc, bs, hcells, hslots, hE, by rw [ht]; exact xb_R.moved hW.alike hR, hS.F ht, Or.inr ⟨X, a, rfl, hq, by rw [ht]; exact hex.moved hW.alike⟩⟩) hS.2.2
  intro T hT X0
  obtain ⟨t, a1, b1⟩ := hk T hT X0
  exact ⟨t, a1, cells, slots, b1⟩
theorem xb_iret {h0 : xb_H} {Qr : Int32 → xb_H → Nat → Nat → Prop} {Qt : String → xb_H → Nat → Nat → Prop} {d MC MS : Nat} {v : Int32} (bc bs : Nat) (hexec : p.tables.exec = Jvm.exec) (hb : c.code = cc) (hr : meth.sig.returnType = some .int) (hlocks : meth.locks = false) (hcells : cells + bc ≤ MC) (hslots : slots + bs ≤ MS) (hE : xb_ext h0 h) (hR : xb_R D A h s H) (hS : va_S A s.heap H locs) (hdg : decode cc pc = .ok (.ireturn, 1)) (hq : Qr v h bc bs) :
    W p l e (xb_rm d MC MS) s m args below meth c H locs cells slots (xb_MQ below (xb_Qc D A h0 MC MS (fun v h bc bs => ∃ r, v = some (.int r) ∧ Qr r h bc bs) Qt) args s A) (F0 m pc ls [.int v]) :=
  xt_mono xb_toMQ (W.iret hexec hb hr (fun t ht hW => ⟨h, bc, bs, hcells, hslots, hE, by rw [ht]; exact xb_R.moved hW.alike hR, hS.F ht, Or.inl ⟨_, rfl, v, rfl, hq⟩⟩) hS.2.2 hdg hlocks)
theorem xb_zret {h0 : xb_H} {Qr : Int32 → xb_H → Nat → Nat → Prop} {Qt : String → xb_H → Nat → Nat → Prop} {d MC MS : Nat} {v : Int32} (bc bs : Nat) (hexec : p.tables.exec = Jvm.exec) (hb : c.code = cc) (hr : meth.sig.returnType = some .boolean) (hlocks : meth.locks = false) (hcells : cells + bc ≤ MC) (hslots : slots + bs ≤ MS) (hv : v = 0 ∨ v = 1) (hE : xb_ext h0 h) (hR : xb_R D A h s H) (hS : va_S A s.heap H locs) (hdg : decode cc pc = .ok (.ireturn, 1)) (hq : Qr v h bc bs) :
    W p l e (xb_rm d MC MS) s m args below meth c H locs cells slots (xb_MQ below (xb_Qc D A h0 MC MS (fun v h bc bs => ∃ r, v = some (.int r) ∧ Qr r h bc bs) Qt) args s A) (F0 m pc ls [.int v]) :=
  xt_mono xb_toMQ (W.zret hexec hb hr (by rcases hv with rfl | rfl <;> decide) (fun t ht hW => ⟨h, bc, bs, hcells, hslots, hE, by rw [ht]; exact xb_R.moved hW.alike hR, hS.F ht, Or.inl ⟨_, rfl, v, rfl, hq⟩⟩) hS.2.2 hdg hlocks)
theorem xb_lret {h0 : xb_H} {Qr : Int64 → xb_H → Nat → Nat → Prop} {Qt : String → xb_H → Nat → Nat → Prop} {d MC MS : Nat} {v : Int64} (bc bs : Nat) (hexec : p.tables.exec = Jvm.exec) (hb : c.code = cc) (hr : meth.sig.returnType = some .long) (hlocks : meth.locks = false) (hcells : cells + bc ≤ MC) (hslots : slots + bs ≤ MS) (hE : xb_ext h0 h) (hR : xb_R D A h s H) (hS : va_S A s.heap H locs) (hdg : decode cc pc = .ok (.lreturn, 1)) (hq : Qr v h bc bs) :
    W p l e (xb_rm d MC MS) s m args below meth c H locs cells slots (xb_MQ below (xb_Qc D A h0 MC MS (fun v h bc bs => ∃ r, v = some (.long r) ∧ Qr r h bc bs) Qt) args s A) (F0 m pc ls [.long v]) :=
  xt_mono xb_toMQ (W.lret hexec hb hr (fun t ht hW => ⟨h, bc, bs, hcells, hslots, hE, by rw [ht]; exact xb_R.moved hW.alike hR, hS.F ht, Or.inl ⟨_, rfl, v, rfl, hq⟩⟩) hS.2.2 hdg hlocks)
theorem xb_aret {h0 : xb_H} {Qr : Nat → xb_H → Nat → Nat → Prop} {Qt : String → xb_H → Nat → Nat → Prop} {d MC MS : Nat} {v : Nat} {rt : FieldType} (bc bs : Nat) (hexec : p.tables.exec = Jvm.exec) (hb : c.code = cc) (hr : meth.sig.returnType = some rt) (hrt : (∃ n, rt = .object n) ∨ ∃ t, rt = .array t) (hlocks : meth.locks = false) (hcells : cells + bc ≤ MC) (hslots : slots + bs ≤ MS) (hE : xb_ext h0 h) (hR : xb_R D A h s H) (hS : va_S A s.heap H locs) (hdg : decode cc pc = .ok (.areturn, 1)) (hq : Qr v h bc bs) :
    W p l e (xb_rm d MC MS) s m args below meth c H locs cells slots (xb_MQ below (xb_Qc D A h0 MC MS (fun v h bc bs => ∃ r, v = some (.ref r) ∧ Qr r h bc bs) Qt) args s A) (F0 m pc ls [.ref v]) :=
  xt_mono xb_toMQ (W.aret hexec hb hr hrt (Or.inr ⟨_, rfl⟩) (fun t ht hW => ⟨h, bc, bs, hcells, hslots, hE, by rw [ht]; exact xb_R.moved hW.alike hR, hS.F ht, Or.inl ⟨_, rfl, v, rfl, hq⟩⟩) hS.2.2 hdg hlocks)
theorem xb_vret {h0 : xb_H} {Qr : xb_H → Nat → Nat → Prop} {Qt : String → xb_H → Nat → Nat → Prop} {d MC MS : Nat} (bc bs : Nat) (hexec : p.tables.exec = Jvm.exec) (hb : c.code = cc) (hr : meth.sig.returnType = none) (hlocks : meth.locks = false) (hcells : cells + bc ≤ MC) (hslots : slots + bs ≤ MS) (hE : xb_ext h0 h) (hR : xb_R D A h s H) (hS : va_S A s.heap H locs) (hdg : decode cc pc = .ok (.return_, 1)) (hq : Qr h bc bs) :
    W p l e (xb_rm d MC MS) s m args below meth c H locs cells slots (xb_MQ below (xb_Qc D A h0 MC MS (fun v h bc bs => v = none ∧ Qr h bc bs) Qt) args s A) (F0 m pc ls []) :=
  xt_mono xb_toMQ (W.vret hexec hb hr (fun t ht hW => ⟨h, bc, bs, hcells, hslots, hE, by rw [ht]; exact xb_R.moved hW.alike hR, hS.F ht, Or.inl ⟨_, rfl, rfl, hq⟩⟩) hS.2.2 hdg hlocks)
theorem xb_split {o : Option Nat} (kn : o = none → W p l e R s m args below meth c H locs cells slots Q (F0 m pc ls (.null :: rest))) (ks : ∀ b : Nat, o = some b → W p l e R s m args below meth c H locs cells slots Q (F0 m pc ls (.ref b :: rest))) : W p l e R s m args below meth c H locs cells slots Q (F0 m pc ls (va_rf o :: rest)) := by
  cases o with
  | none => exact kn rfl
  | some b => exact ks b rfl
theorem xb_lcn (x y : Int64) : (lg_cmp x y < 0 ↔ x < y) ∧ (0 < lg_cmp x y ↔ y < x) ∧ (lg_cmp x y = 0 ↔ x = y) ∧ (0 ≤ lg_cmp x y ↔ y ≤ x) ∧ (lg_cmp x y ≤ 0 ↔ x ≤ y) := by
  simp only [Int64.lt_iff_toInt_lt, Int64.le_iff_toInt_le, lg_cmp, GT.gt, ← Int64.toInt_inj]
  by_cases h1 : y.toInt < x.toInt
  · rw [if_pos h1]
    refine ⟨⟨fun h => absurd h (by decide), fun h => ?_⟩, ⟨fun _ => h1, fun _ => by decide⟩, ⟨fun h => absurd h (by decide), fun h => ?_⟩, ⟨fun _ => ?_, fun _ => by decide⟩, ⟨fun h => absurd h (by decide), fun h => ?_⟩⟩ <;> omega
  · rw [if_neg h1]
    by_cases h2 : x.toInt = y.toInt
    · rw [if_pos h2]
      refine ⟨⟨fun h => absurd h (by decide), fun h => ?_⟩, ⟨fun h => absurd h (by decide), fun h => ?_⟩, ⟨fun _ => h2, fun _ => rfl⟩, ⟨fun _ => ?_, fun _ => by decide⟩, ⟨fun _ => ?_, fun _ => by decide⟩⟩ <;> omega
    · rw [if_neg h2]
      refine ⟨⟨fun _ => ?_, fun _ => by decide⟩, ⟨fun h => absurd h (by decide), fun h => ?_⟩, ⟨fun h => absurd h (by decide), fun h => ?_⟩, ⟨fun h => absurd h (by decide), fun h => ?_⟩, ⟨fun _ => ?_, fun _ => by decide⟩⟩ <;> omega
theorem xb_lc_lt (hexec : p.tables.exec = Jvm.exec) (hb : c.code = cc) {x y : Int64} {off : Int} {tgt : Nat} (d1 : decode cc pc = .ok (.lcmp, 1)) (d2 : decode cc (pc + 1) = .ok (.ifCond .lt off, 3)) (ht : ((pc + 1 : Nat) : Int) + off = (tgt : Int))
    (kt : x < y → W p l e R s m args below meth c H locs cells slots Q (F0 m tgt ls rest)) (kf : ¬ x < y → W p l e R s m args below meth c H locs cells slots Q (F0 m (pc + 4) ls rest)) : W p l e R s m args below meth c H locs cells slots Q (F0 m pc ls (.long y :: .long x :: rest)) :=
  W.lcmp hexec hb d1 (lv_if_lt hexec hb d2 ht (fun h1 => kt ((xb_lcn x y).1.mp h1)) (fun h1 => kf (fun h2 => h1 ((xb_lcn x y).1.mpr h2))))
theorem xb_lc_gt (hexec : p.tables.exec = Jvm.exec) (hb : c.code = cc) {x y : Int64} {off : Int} {tgt : Nat} (d1 : decode cc pc = .ok (.lcmp, 1)) (d2 : decode cc (pc + 1) = .ok (.ifCond .gt off, 3)) (ht : ((pc + 1 : Nat) : Int) + off = (tgt : Int))
    (kt : y < x → W p l e R s m args below meth c H locs cells slots Q (F0 m tgt ls rest)) (kf : ¬ y < x → W p l e R s m args below meth c H locs cells slots Q (F0 m (pc + 4) ls rest)) : W p l e R s m args below meth c H locs cells slots Q (F0 m pc ls (.long y :: .long x :: rest)) :=
  W.lcmp hexec hb d1 (lv_if_gt hexec hb d2 ht (fun h1 => kt ((xb_lcn x y).2.1.mp h1)) (fun h1 => kf (fun h2 => h1 ((xb_lcn x y).2.1.mpr h2))))
theorem xb_lc_eq (hexec : p.tables.exec = Jvm.exec) (hb : c.code = cc) {x y : Int64} {off : Int} {tgt : Nat} (d1 : decode cc pc = .ok (.lcmp, 1)) (d2 : decode cc (pc + 1) = .ok (.ifCond .eq off, 3)) (ht : ((pc + 1 : Nat) : Int) + off = (tgt : Int))
    (kt : x = y → W p l e R s m args below meth c H locs cells slots Q (F0 m tgt ls rest)) (kf : ¬ x = y → W p l e R s m args below meth c H locs cells slots Q (F0 m (pc + 4) ls rest)) : W p l e R s m args below meth c H locs cells slots Q (F0 m pc ls (.long y :: .long x :: rest)) :=
  W.lcmp hexec hb d1 (lv_if_eq hexec hb d2 ht (fun h1 => kt ((xb_lcn x y).2.2.1.mp h1)) (fun h1 => kf (fun h2 => h1 ((xb_lcn x y).2.2.1.mpr h2))))
theorem xb_lc_ge (hexec : p.tables.exec = Jvm.exec) (hb : c.code = cc) {x y : Int64} {off : Int} {tgt : Nat} (d1 : decode cc pc = .ok (.lcmp, 1)) (d2 : decode cc (pc + 1) = .ok (.ifCond .ge off, 3)) (ht : ((pc + 1 : Nat) : Int) + off = (tgt : Int))
    (kt : y ≤ x → W p l e R s m args below meth c H locs cells slots Q (F0 m tgt ls rest)) (kf : ¬ y ≤ x → W p l e R s m args below meth c H locs cells slots Q (F0 m (pc + 4) ls rest)) : W p l e R s m args below meth c H locs cells slots Q (F0 m pc ls (.long y :: .long x :: rest)) :=
  W.lcmp hexec hb d1 (lv_if_ge hexec hb d2 ht (fun h1 => kt ((xb_lcn x y).2.2.2.1.mp h1)) (fun h1 => kf (fun h2 => h1 ((xb_lcn x y).2.2.2.1.mpr h2))))
theorem xb_lc_le (hexec : p.tables.exec = Jvm.exec) (hb : c.code = cc) {x y : Int64} {off : Int} {tgt : Nat} (d1 : decode cc pc = .ok (.lcmp, 1)) (d2 : decode cc (pc + 1) = .ok (.ifCond .le off, 3)) (ht : ((pc + 1 : Nat) : Int) + off = (tgt : Int))
    (kt : x ≤ y → W p l e R s m args below meth c H locs cells slots Q (F0 m tgt ls rest)) (kf : ¬ x ≤ y → W p l e R s m args below meth c H locs cells slots Q (F0 m (pc + 4) ls rest)) : W p l e R s m args below meth c H locs cells slots Q (F0 m pc ls (.long y :: .long x :: rest)) :=
  W.lcmp hexec hb d1 (lv_if_le hexec hb d2 ht (fun h1 => kt ((xb_lcn x y).2.2.2.2.mp h1)) (fun h1 => kf (fun h2 => h1 ((xb_lcn x y).2.2.2.2.mpr h2))))
theorem xb_lc_ne (hexec : p.tables.exec = Jvm.exec) (hb : c.code = cc) {x y : Int64} {off : Int} {tgt : Nat} (d1 : decode cc pc = .ok (.lcmp, 1)) (d2 : decode cc (pc + 1) = .ok (.ifCond .ne off, 3)) (ht : ((pc + 1 : Nat) : Int) + off = (tgt : Int))
    (kt : ¬ x = y → W p l e R s m args below meth c H locs cells slots Q (F0 m tgt ls rest)) (kf : x = y → W p l e R s m args below meth c H locs cells slots Q (F0 m (pc + 4) ls rest)) : W p l e R s m args below meth c H locs cells slots Q (F0 m pc ls (.long y :: .long x :: rest)) :=
  W.lcmp hexec hb d1 (lv_if_ne hexec hb d2 ht (fun h1 => kt (fun h2 => h1 ((xb_lcn x y).2.2.1.mpr h2))) (fun h1 => kf ((xb_lcn x y).2.2.1.mp h1)))
theorem xb_nl {x : Int32} (k : Int) (c : Int32) (hc : c.toInt = k) (h : ¬ x = c) : x.toInt ≠ k := fun h2 => h (Int32.toInt_inj.mp (h2.trans hc.symm))
theorem xb_d {T : List (Nat × Instr × Nat)} {b : ByteArray} (hD : ∀ q ∈ T, decode b q.1 = .ok (q.2.1, q.2.2)) (k : Nat) {pc n : Nat} {i : Instr} (h : T[k]? = some (pc, i, n)) : decode b pc = .ok (i, n) := hD (pc, i, n) (List.mem_of_getElem? h)
/-- what holds of a method's frame all along -/
def xb_C (own nm : String) (cc : ByteArray) (maxL : Nat) (tab : List ExceptionTableEntry) (ret : Option FieldType) (A : Nat → Prop) (σ : Nat) (p : Program) (s : State) (m : MethodId) (meth : Method) (c : Code) : Prop :=
  p.tables.exec = Jvm.exec ∧ c.code = cc ∧ s.vm.findClass own = some m.cls ∧ meth.locks = false ∧ c.exceptionTable.toList = tab ∧ c.maxLocals = maxL ∧ meth.sig.returnType = ret ∧ xb_B A σ s s.heap ∧ (∀ q, s.heap.size ≤ q → A q) ∧ meth.name = nm
/-- a place of a method, with these locals, operands, heap and room, ends as is asked -/
def xb_am (l : Launch) (D : va_G) (A : Nat → Prop) (σ d MC MS : Nat) (h0 : xb_H) (Qr : Option Value → xb_H → Nat → Nat → Prop) (Qt : String → xb_H → Nat → Nat → Prop) (own nm : String) (cc : ByteArray) (maxL : Nat) (tab : List ExceptionTableEntry) (ret : Option FieldType) (pc : Nat) (lo : List (Nat × Value)) (st : List Value) (h : xb_H) (bc bs : Nat) : Prop :=
  ∀ (p : Program) (e : Env) (s : State) (m : MethodId) (args : Array Value) (below : List Frame) (meth : Method) (c : Code), xb_C own nm cc maxL tab ret A σ p s m meth c →
    ∀ (H : Heap) (locs : List Loc) (ls : Array Slot) (k n : Nat), xb_ext h0 h → lv_has ls maxL lo → xb_R D A h s H → va_S A s.heap H locs → k + bc ≤ MC → n + bs ≤ MS →
      W p l e (xb_rm d MC MS) s m args below meth c H locs k n (xb_MQ below (xb_Qc D A h0 MC MS Qr Qt) args s A) (F0 m pc ls st)
theorem xb_ofAm {y : MethodName} {d bc bs maxL : Nat} {ret : Option FieldType} {av : List Value} {Qr : Option Value → xb_H → Nat → Nat → Prop} {Qt : String → xb_H → Nat → Nat → Prop} (hy : plainName y.cls = true) (hlen : (lg_sl av).length ≤ maxL)
    (ham : xb_am l D A σ d bc bs h Qr Qt y.cls y.name cc maxL [] ret 0 (lv_args 0 av) [] h bc bs) : xb_Met l y [Cond.code y cc maxL ret] (xb_rm d bc bs) (xb_Pc D A σ h av) (xb_Qc D A h bc bs Qr Qt) A := by
  refine xb_ofW (cc := cc) (maxL := maxL) (ret := ret) hy (List.mem_singleton.mpr rfl) ?_
  intro p e s m args below meth c s₁ B hml htab hv
  obtain ⟨rfl, hA, hB, hR⟩ := hv
  rw [lg_entry_eq]
  exact ham p e s m _ below meth c ⟨B.exec, B.bytes, findClass_of_methodNamed B.named, B.notSynchronized, htab, hml, B.returns, hB, hA, (name_of_methodNamed B.named B.method).1⟩ s.heap [] _ 0 0 (xb_ext.rf h) (lv_entry av hlen) hR va_S.rf (by omega) (by omega)
theorem xb_ofAmH {y : MethodName} {d bc bs maxL : Nat} {ret : Option FieldType} {hh : List (Nat × Nat × Nat × Nat)} {av : List Value} {Qr : Option Value → xb_H → Nat → Nat → Prop} {Qt : String → xb_H → Nat → Nat → Prop} (hy : plainName y.cls = true) (hlen : (lg_sl av).length ≤ maxL)
    (ham : xb_am l D A σ d bc bs h Qr Qt y.cls y.name cc maxL (tableOf hh) ret 0 (lv_args 0 av) [] h bc bs) : xb_Met l y [Cond.codeWith y cc maxL ret hh] (xb_rm d bc bs) (xb_Pc D A σ h av) (xb_Qc D A h bc bs Qr Qt) A := by
  refine xb_ofWH (cc := cc) (maxL := maxL) (ret := ret) hy (List.mem_singleton.mpr rfl) ?_
  intro p e s m args below meth c s₁ B hml htab hv
  obtain ⟨rfl, hA, hB, hR⟩ := hv
  rw [lg_entry_eq]
  exact ham p e s m _ below meth c ⟨B.exec, B.bytes, findClass_of_methodNamed B.named, B.notSynchronized, htab, hml, B.returns, hB, hA, (name_of_methodNamed B.named B.method).1⟩ s.heap [] _ 0 0 (xb_ext.rf h) (lv_entry av hlen) hR va_S.rf (by omega) (by omega)
end XBD
