-- the statics that are tables
def xb_T1 (C n d : String) (ty : FieldType) (L : List Int32) (A : Nat → Prop) (U : State) (H : Heap) : Prop := ∃ t : Nat, va_Z C n d (.ref t) A U H ∧ va_T ty t L.length (fun j => .int (L.getD j 0)) A U H
theorem xb_T1.moved {C n d : String} {ty : FieldType} {L : List Int32} {A : Nat → Prop} {u U : State} {H : Heap} (hvm : u.vm.Alike U.vm) (h : xb_T1 C n d ty L A u H) : xb_T1 C n d ty L A U H := by
  obtain ⟨t, h1, h2⟩ := h
  exact ⟨t, h1.moved hvm, h2.moved hvm⟩
theorem xb_T1.kept {C n d : String} {ty : FieldType} {L : List Int32} {A : Nat → Prop} {U : State} {H H1 : Heap} (h : xb_T1 C n d ty L A U H) (hq : ∀ a : Nat, a < H.size → ¬ A a → H1[a]? = H[a]?) : xb_T1 C n d ty L A U H1 := by
  obtain ⟨t, h1, h2⟩ := h
  exact ⟨t, h1.kept hq, h2.kept hq⟩
def xb_St (σ : Nat) (A : Nat → Prop) (U : State) (H : Heap) : Prop :=
  xb_T1 "StackHost$Checker" "SIGNATURES" "[I" .int xb_cSIG A U H ∧ xb_T1 "StackHost" "MEMORY_TYPES" "[I" .int xb_cMT A U H ∧ xb_T1 "StackHost" "MEMORY_BYTES" "[I" .int xb_cMB A U H ∧ xb_T1 "StackHost" "HOST_EXPORTS" "[B" .byte xb_cHX A U H ∧ va_Z "StackHost" "HOST_NAME" "[B" (.ref σ) A U H
def xb_B (A : Nat → Prop) (σ : Nat) (U : State) (H : Heap) : Prop := xt_B A U H ∧ xb_St σ A U H
theorem xb_B.warm {A : Nat → Prop} {σ : Nat} {s U : State} {H : Heap} (h : xb_B A σ s H) (hW : s.WarmedH U.vm) : xb_B A σ U H := by
  obtain ⟨h0, h1, h2, h3, h4, h5⟩ := h
  exact ⟨h0.warm hW, h1.moved hW.alike, h2.moved hW.alike, h3.moved hW.alike, h4.moved hW.alike, h5.moved hW.alike⟩
theorem xb_B.same {A : Nat → Prop} {σ : Nat} {u U : State} {H : Heap} (hv : U.vm = u.vm) (h : xb_B A σ u H) : xb_B A σ U H := h.warm (by rw [hv]; exact State.WarmedH.refl u)
theorem xb_B.sub {A : Nat → Prop} {σ : Nat} {U : State} {H H1 : Heap} {locs : List Loc} (h : xb_B A σ U H) (hS : va_S A H H1 locs) : xb_B A σ U H1 := by
  obtain ⟨h0, h1, h2, h3, h4, h5⟩ := h
  exact ⟨h0.sub hS (fun _ h => h), h1.kept hS.2.1, h2.kept hS.2.1, h3.kept hS.2.1, h4.kept hS.2.1, h5.kept hS.2.1⟩
-- kinds and lengths stay
def xb_ext (h h' : xb_H) : Prop := ∀ a, xb_k h a ≠ 0 → xb_k h' a = xb_k h a ∧ xb_n h' a = xb_n h a
theorem xb_ext.rf (h : xb_H) : xb_ext h h := fun _ _ => ⟨rfl, rfl⟩
theorem xb_ext.tr {h h1 h2 : xb_H} (e1 : xb_ext h h1) (e2 : xb_ext h1 h2) : xb_ext h h2 := fun a ha => by
  have h1 := e1 a ha
  have h2 := e2 a (by rw [h1.1]; exact ha)
  exact ⟨h2.1.trans h1.1, h2.2.trans h1.2⟩
theorem xb_ext.new {h h1 : xb_H} {q : Nat} (kd n : Nat) (e1 : xb_ext h h1) (hq : xb_k h1 q = 0) : xb_ext h (xb_new h1 q kd n) := fun a ha => by
  have h2 := e1 a ha
  have hne : a ≠ q := fun hx => by
    subst hx
    rw [h2.1] at hq
    exact ha hq
  exact ⟨(xb_up_n h1.1 kd hne).trans h2.1, (xb_up_n h1.2.1 n hne).trans h2.2⟩
theorem xb_ext.k {h h1 : xb_H} (e1 : xb_ext h h1) {a c : Nat} (hk : xb_k h a = c + 1) : xb_k h1 a = c + 1 := (e1 a (by rw [hk]; exact Nat.succ_ne_zero c)).1.trans hk
theorem xb_ext.n {h h1 : xb_H} (e1 : xb_ext h h1) {a c : Nat} (hk : xb_k h a = c + 1) : xb_n h1 a = xb_n h a := (e1 a (by rw [hk]; exact Nat.succ_ne_zero c)).2
theorem xb_nk {h : xb_H} {q a kd n c : Nat} (hq : xb_k h q = 0) (hk : xb_k h a = c + 1) : xb_k (xb_new h q kd n) a = c + 1 := (xb_up_n h.1 kd (fun hx => by subst hx; rw [hk] at hq; cases hq)).trans hk
-- a method's start and end
def xb_Pc (D : va_G) (A : Nat → Prop) (σ : Nat) (h : xb_H) (av : List Value) : Array Value → State → Prop := fun v U =>
  v = av.toArray ∧ (∀ q, U.heap.size ≤ q → A q) ∧ xb_B A σ U U.heap ∧ xb_R D A h U U.heap
def xb_Qc (D : va_G) (A : Nat → Prop) (h0 : xb_H) (Qr : Option Value → xb_H → Prop) (Qt : String → xb_H → Prop) : Array Value → State → Outcome → State → Prop := fun _ st oc t =>
  ∃ h' : xb_H, xb_ext h0 h' ∧ xb_R D A h' t t.heap ∧ va_F A st t ∧ ((∃ v, oc = .returned v ∧ Qr v h') ∨ ∃ (X : String) (a : Nat), oc = .threw a ∧ Qt X h' ∧ xt_Ex X a t t.heap)
theorem xb_blind {D : va_G} {A : Nat → Prop} {σ : Nat} {h : xb_H} {av : List Value} : FrameBlind (xb_Pc D A σ h av) := by
  intro a U g mk hp
  obtain ⟨h1, h2, h3, h4⟩ := hp
  exact ⟨h1, h2, xb_B.same (u := U) rfl h3, xb_R.moved (u := U) (U := U.calling g mk a) (Vm.Alike.refl U.vm) h4⟩
abbrev xb_rm (d bc bs : Nat) : Room := { frames := 8 + d, cells := bc, slots := bs, locals := 120 + 100 * d }
section XBD
variable {p : Program} {l : Launch} {e : Env} {R : Room} {s : State} {m : MethodId} {args : Array Value} {below : List Frame} {meth : Method} {c : Code} {H : Heap} {locs : List Loc} {cells slots : Nat} {Q : State → Prop} {pc : Nat} {ls : Array Slot} {rest : List Value} {cc : ByteArray}
variable {D : va_G} {A : Nat → Prop} {σ : Nat} {h : xb_H}
theorem xb_call {y : MethodName} {wy : List Cond} {d mc ms maxL : Nat} {av : List Value} {Qr : Option Value → xb_H → Prop} {Qt : String → xb_H → Prop} {st0 : List Value} {ig : Instr}
    (hinv : ∀ T : State, T.heap = H → Stand p l e R s m args below meth c T locs cells slots → xt_Inv p l e R s m args below meth c T locs cells slots (F0 m pc ls st0) rest y av)
    (hM : xt_Met l y wy (xb_rm d mc ms) (xb_Pc D A σ h av) (xb_Qc D A h Qr Qt) mc ms A)
    (hml : c.maxLocals = ls.size) (hdg : decode c.code pc = .ok (ig, 3)) (hwt : (rest.map fun v => v.category).sum ≤ 20)
    (hfr : 8 + d + 1 ≤ R.frames) (hlo : 20 + (maxL + 11) + (120 + 100 * d) ≤ R.locals) (hfc : cells + mc ≤ R.cells) (hfs : slots + ms ≤ R.slots)
    (hws : ∀ w ∈ wy, ∀ a' U, s.WarmedH U.vm → w.before a' U = true) (hcd : ∀ U : State, s.WarmedH U.vm → xt_cd y maxL U) (hinit : (Cond.initialized y.cls).before args s = true)
    (hB : xb_B A σ s s.heap) (hR : xb_R D A h s H) (hS : va_S A s.heap H locs) (hA : ∀ q, s.heap.size ≤ q → A q)
    (kr : ∀ (v : Option Value) (h' : xb_H) (H1 : Heap) (locs1 : List Loc), Qr v h' → xb_ext h h' → xb_R D A h' s H1 → va_S A s.heap H1 locs1 → W p l e R s m args below meth c H1 locs1 (cells + mc) (slots + ms) Q (F0 m (pc + 3) ls (v.toList ++ rest)))
    (kt : ∀ (X : String) (a : Nat) (h' : xb_H) (H1 : Heap) (locs1 : List Loc), Qt X h' → xb_ext h h' → xt_Ex X a s H1 → xb_R D A h' s H1 → va_S A s.heap H1 locs1 → xt_WT p l e R s m args below meth c H1 locs1 (cells + mc) (slots + ms) Q (F0 m pc ls rest) a) :
    W p l e R s m args below meth c H locs cells slots Q (F0 m pc ls st0) := by
  intro T hTH X
  obtain ⟨vm₁, mk, X₁, hnm, hstep⟩ := hinv T hTH X
  have hK9 : xt_Back l R p e below s args y 3 20 (PreOf R mc ms (xb_Pc D A σ h av)) (xt_Post (xb_Qc D A h Qr Qt) mc ms A) :=
    xt_back (maxL := maxL) hM xb_blind rfl rfl hfr hlo hws hcd (fun a' U hW => word_at hW (Or.inl (by first | rfl | simp [Cond.onTables, Cond.keeps, Cond.steady])) hinit)
  have hpre : xb_Pc D A σ h av av.toArray (T.setVm vm₁) := by
    have hh : (T.setVm vm₁).heap = H := hTH
    exact ⟨rfl, fun q hq => hA q (Nat.le_trans hS.1 (by rw [hh] at hq; exact hq)), by rw [hh]; exact (hB.sub hS).warm X₁.warmed, by rw [hh]; exact xb_R.moved X₁.warmed.alike hR⟩
  obtain ⟨o, ⟨U', l2, c2, s2⟩, X', ⟨g', mk', t, L, e1, e2, ⟨h', hE1, hR1, ⟨hz, hk⟩, ho⟩, h1, hL, h2, h3⟩, st⟩ := hK9 m meth c ⟨T.setVm vm₁, locs, cells, slots⟩ (F0 m pc ls rest) ig mk av.toArray X₁ rfl hml.symm hdg (by simpa [JFrame.monitorRoom] using hwt) hnm ⟨hfc, hfs, hpre⟩
  dsimp only [Pt.U, Pt.locs, Pt.cells, Pt.slots] at X' e1 e2 h1 h2 h3 st
  subst h1; subst h2; subst h3
  have hst : ((T.setVm vm₁).calling g' mk' av.toArray).heap = H := hTH
  rw [hst] at hz hk
  rw [← e1] at hR1 hz hk
  have hsz : s.vm.Alike t.vm := by rw [← e2]; exact X'.warmed.alike
  have hR2 : xb_R D A h' s U'.heap := xb_R.moved hsz.symm hR1
  have hSj : va_S A s.heap U'.heap (locs ++ L) := ⟨Nat.le_trans hS.1 hz, fun q h1 h2 => by rw [hk q (Nat.lt_of_lt_of_le h1 hS.1) h2]; exact hS.2.1 q h1 h2, fun q hq => by
    rcases List.mem_append.mp hq with h | h
    · exact hS.2.2 q h
    · exact hL q h⟩
  rcases ho with ⟨v, rfl, hp⟩ | ⟨Xn, a, rfl, hth, hex⟩
  · obtain ⟨t2, a1, b1⟩ := kr v h' U'.heap (locs ++ L) hp hE1 hR2 hSj U' rfl X'
    exact ⟨t2, hstep t2 fun acts => by rw [doInvoke_state]; exact st.trans a1, b1⟩
  · obtain ⟨t2, a1, b1⟩ := kt Xn a h' U'.heap (locs ++ L) hth hE1 (by rw [e1]; exact hex.moved hsz.symm) hR2 hSj U' rfl X'
    exact ⟨t2, hstep t2 fun acts => by rw [doInvoke_state]; exact st.trans a1, b1⟩
/-- a method's end by a throw of its own -/
theorem xb_throw {h0 : xb_H} {Qr : Option Value → xb_H → Prop} {Qt : String → xb_H → Prop} {own X tx : String} {names : List String} {kc ic ks n d MC MS : Nat} {i : Instr}
    (hexec : p.tables.exec = Jvm.exec) (hb : c.code = cc) (hml : c.maxLocals = ls.size) (hlocks : meth.locks = false) (hfl : l.flags = pinnedFlags ++ [noTraceFlag]) (hown : s.vm.findClass own = some m.cls) (hsite : xt_Site own X kc ic ks tx names)
    (hB : xb_B A σ s s.heap) (hS : va_S A s.heap H locs) (hcells : cells + 1 ≤ MC) (hslots : slots + 6 ≤ MS) (hRf : names.length + 3 < 8 + d) (hRl : (rest.map fun v => v.category).sum + (13 * (names.length + 1) + 43) ≤ 120 + 100 * d) (htab : c.exceptionTable.toList = [])
    (d0 : decode cc pc = .ok (.new kc, 3)) (d1 : decode cc (pc + 3) = .ok (.dup, 1)) (hi : xt_ldcI ks n i) (d2 : decode cc (pc + 4) = .ok (i, n)) (d3 : decode cc (pc + 4 + n) = .ok (.invokespecial ic, 3)) (d4 : decode cc (pc + 4 + n + 3) = .ok (.athrow, 1))
    (hE : xb_ext h0 h) (hR : xb_R D A h s H) (hq : Qt X h) :
    W p l e (xb_rm d MC MS) s m args below meth c H locs cells slots (xt_MQ below (xb_Qc D A h0 Qr Qt) args s MC MS A) (F0 m pc ls rest) := by
  obtain ⟨MC', rfl⟩ : ∃ x, MC = x + 1 := ⟨MC - 1, by omega⟩
  obtain ⟨MS', rfl⟩ : ∃ x, MS = x + 6 := ⟨MS - 6, by omega⟩
  refine W.widen (k := MC') (n := MS') (by omega) (by omega) ?_
  refine xt_throwRaw hexec hb hml hlocks hfl hown hsite hB.1 hS (Nat.le_refl _) (Nat.le_refl _) hRf hRl htab d0 d1 hi d2 d3 d4 (fun a t hW hex hz hk => ?_) hS.2.2
  refine ⟨h, hE, xb_R.moved hW.alike (hR.grown hk), ⟨Nat.le_trans hS.1 hz, fun q h1 h2 => by rw [hk q (Nat.lt_of_lt_of_le h1 hS.1)]; exact hS.2.1 q h1 h2⟩, Or.inr ⟨X, a, rfl, hq, hex⟩⟩
/-- a callee's throw goes on through this method -/
theorem xb_pass {h0 : xb_H} {Qr : Option Value → xb_H → Prop} {Qt : String → xb_H → Prop} {X : String} {a MC MS : Nat} {st : List Value} (hlocks : meth.locks = false) (hout : ∀ x ∈ c.exceptionTable.toList, covers x pc = false)
    (hcells : cells ≤ MC) (hslots : slots ≤ MS) (hE : xb_ext h0 h) (hR : xb_R D A h s H) (hS : va_S A s.heap H locs) (hex : xt_Ex X a s H) (hq : Qt X h) :
    xt_WT p l e R s m args below meth c H locs cells slots (xt_MQ below (xb_Qc D A h0 Qr Qt) args s MC MS A) (F0 m pc ls st) a :=
  xt_widenT hcells hslots (xt_leave hlocks hout (fun t ht hW => ⟨h, hE, by rw [ht]; exact xb_R.moved hW.alike hR, hS.F ht, Or.inr ⟨X, a, rfl, hq, by rw [ht]; exact hex.moved hW.alike⟩⟩) hS.2.2)
theorem xb_iret {h0 : xb_H} {Qr : Int32 → xb_H → Prop} {Qt : String → xb_H → Prop} {d MC MS : Nat} {v : Int32} (hexec : p.tables.exec = Jvm.exec) (hb : c.code = cc) (hr : meth.sig.returnType = some .int) (hlocks : meth.locks = false) (hcells : cells ≤ MC) (hslots : slots ≤ MS) (hE : xb_ext h0 h) (hR : xb_R D A h s H) (hS : va_S A s.heap H locs) (hdg : decode cc pc = .ok (.ireturn, 1)) (hq : Qr v h) :
    W p l e (xb_rm d MC MS) s m args below meth c H locs cells slots (xt_MQ below (xb_Qc D A h0 (fun v h => ∃ r, v = some (.int r) ∧ Qr r h) Qt) args s MC MS A) (F0 m pc ls [.int v]) :=
  W.widen hcells hslots (xt_mono xt_ofMQ (W.iret hexec hb hr (fun t ht hW => ⟨h, hE, by rw [ht]; exact xb_R.moved hW.alike hR, hS.F ht, Or.inl ⟨_, rfl, v, rfl, hq⟩⟩) hS.2.2 hdg hlocks))
theorem xb_zret {h0 : xb_H} {Qr : Int32 → xb_H → Prop} {Qt : String → xb_H → Prop} {d MC MS : Nat} {v : Int32} (hexec : p.tables.exec = Jvm.exec) (hb : c.code = cc) (hr : meth.sig.returnType = some .boolean) (hlocks : meth.locks = false) (hcells : cells ≤ MC) (hslots : slots ≤ MS) (hv : v = 0 ∨ v = 1) (hE : xb_ext h0 h) (hR : xb_R D A h s H) (hS : va_S A s.heap H locs) (hdg : decode cc pc = .ok (.ireturn, 1)) (hq : Qr v h) :
    W p l e (xb_rm d MC MS) s m args below meth c H locs cells slots (xt_MQ below (xb_Qc D A h0 (fun v h => ∃ r, v = some (.int r) ∧ Qr r h) Qt) args s MC MS A) (F0 m pc ls [.int v]) :=
  W.widen hcells hslots (xt_mono xt_ofMQ (W.zret hexec hb hr (by rcases hv with rfl | rfl <;> decide) (fun t ht hW => ⟨h, hE, by rw [ht]; exact xb_R.moved hW.alike hR, hS.F ht, Or.inl ⟨_, rfl, v, rfl, hq⟩⟩) hS.2.2 hdg hlocks))
theorem xb_lret {h0 : xb_H} {Qr : Int64 → xb_H → Prop} {Qt : String → xb_H → Prop} {d MC MS : Nat} {v : Int64} (hexec : p.tables.exec = Jvm.exec) (hb : c.code = cc) (hr : meth.sig.returnType = some .long) (hlocks : meth.locks = false) (hcells : cells ≤ MC) (hslots : slots ≤ MS) (hE : xb_ext h0 h) (hR : xb_R D A h s H) (hS : va_S A s.heap H locs) (hdg : decode cc pc = .ok (.lreturn, 1)) (hq : Qr v h) :
    W p l e (xb_rm d MC MS) s m args below meth c H locs cells slots (xt_MQ below (xb_Qc D A h0 (fun v h => ∃ r, v = some (.long r) ∧ Qr r h) Qt) args s MC MS A) (F0 m pc ls [.long v]) :=
  W.widen hcells hslots (xt_mono xt_ofMQ (W.lret hexec hb hr (fun t ht hW => ⟨h, hE, by rw [ht]; exact xb_R.moved hW.alike hR, hS.F ht, Or.inl ⟨_, rfl, v, rfl, hq⟩⟩) hS.2.2 hdg hlocks))
theorem xb_aret {h0 : xb_H} {Qr : Nat → xb_H → Prop} {Qt : String → xb_H → Prop} {d MC MS v : Nat} {rt : FieldType} (hexec : p.tables.exec = Jvm.exec) (hb : c.code = cc) (hr : meth.sig.returnType = some rt) (hrt : (∃ n, rt = .object n) ∨ ∃ t, rt = .array t) (hlocks : meth.locks = false) (hcells : cells ≤ MC) (hslots : slots ≤ MS) (hE : xb_ext h0 h) (hR : xb_R D A h s H) (hS : va_S A s.heap H locs) (hdg : decode cc pc = .ok (.areturn, 1)) (hq : Qr v h) :
    W p l e (xb_rm d MC MS) s m args below meth c H locs cells slots (xt_MQ below (xb_Qc D A h0 (fun v h => ∃ r, v = some (.ref r) ∧ Qr r h) Qt) args s MC MS A) (F0 m pc ls [.ref v]) :=
  W.widen hcells hslots (xt_mono xt_ofMQ (W.aret hexec hb hr hrt (Or.inr ⟨_, rfl⟩) (fun t ht hW => ⟨h, hE, by rw [ht]; exact xb_R.moved hW.alike hR, hS.F ht, Or.inl ⟨_, rfl, v, rfl, hq⟩⟩) hS.2.2 hdg hlocks))
theorem xb_vret {h0 : xb_H} {Qr : xb_H → Prop} {Qt : String → xb_H → Prop} {d MC MS : Nat} (hexec : p.tables.exec = Jvm.exec) (hb : c.code = cc) (hr : meth.sig.returnType = none) (hlocks : meth.locks = false) (hcells : cells ≤ MC) (hslots : slots ≤ MS) (hE : xb_ext h0 h) (hR : xb_R D A h s H) (hS : va_S A s.heap H locs) (hdg : decode cc pc = .ok (.return_, 1)) (hq : Qr h) :
    W p l e (xb_rm d MC MS) s m args below meth c H locs cells slots (xt_MQ below (xb_Qc D A h0 (fun v h => v = none ∧ Qr h) Qt) args s MC MS A) (F0 m pc ls []) :=
  W.widen hcells hslots (xt_mono xt_ofMQ (W.vret hexec hb hr (fun t ht hW => ⟨h, hE, by rw [ht]; exact xb_R.moved hW.alike hR, hS.F ht, Or.inl ⟨_, rfl, rfl, hq⟩⟩) hS.2.2 hdg hlocks))
theorem xb_split {o : Option Nat} (kn : o = none → W p l e R s m args below meth c H locs cells slots Q (F0 m pc ls (.null :: rest))) (ks : ∀ b : Nat, o = some b → W p l e R s m args below meth c H locs cells slots Q (F0 m pc ls (.ref b :: rest))) : W p l e R s m args below meth c H locs cells slots Q (F0 m pc ls (va_rf o :: rest)) := by
  cases o with
  | none => exact kn rfl
  | some b => exact ks b rfl
theorem xb_lcn (x y : Int64) : (lg_cmp x y < 0 ↔ x < y) ∧ (0 < lg_cmp x y ↔ y < x) ∧ (lg_cmp x y = 0 ↔ x = y) ∧ (0 ≤ lg_cmp x y ↔ y ≤ x) ∧ (lg_cmp x y ≤ 0 ↔ x ≤ y) := by
  simp only [Int64.lt_iff_toInt_lt, Int64.le_iff_toInt_le, lg_cmp, GT.gt, ← Int64.toInt_inj]
  by_cases h1 : y.toInt < x.toInt
  · rw [if_pos h1]
    refine ⟨⟨fun h => absurd h (by decide), fun h => ?_⟩, ⟨fun _ => h1, fun _ => by decide⟩, ⟨fun h => absurd h (by decide), fun h => ?_⟩, ⟨fun _ => ?_, fun _ => by decide⟩, ⟨fun h => absurd h (by decide), fun h => ?_⟩⟩ <;> omega
  · rw [if_neg h1]
    by_cases h2 : x.toInt = y.toInt
    · rw [if_pos h2]
      refine ⟨⟨fun h => absurd h (by decide), fun h => ?_⟩, ⟨fun h => absurd h (by decide), fun h => ?_⟩, ⟨fun _ => h2, fun _ => rfl⟩, ⟨fun _ => ?_, fun _ => by decide⟩, ⟨fun _ => ?_, fun _ => by decide⟩⟩ <;> omega
    · rw [if_neg h2]
      refine ⟨⟨fun _ => ?_, fun _ => by decide⟩, ⟨fun h => absurd h (by decide), fun h => ?_⟩, ⟨fun h => absurd h (by decide), fun h => ?_⟩, ⟨fun h => absurd h (by decide), fun h => ?_⟩, ⟨fun _ => ?_, fun _ => by decide⟩⟩ <;> omega
theorem xb_lc_lt (hexec : p.tables.exec = Jvm.exec) (hb : c.code = cc) {x y : Int64} {off : Int} {tgt : Nat} (d1 : decode cc pc = .ok (.lcmp, 1)) (d2 : decode cc (pc + 1) = .ok (.ifCond .lt off, 3)) (ht : ((pc + 1 : Nat) : Int) + off = (tgt : Int))
    (kt : x < y → W p l e R s m args below meth c H locs cells slots Q (F0 m tgt ls rest)) (kf : ¬ x < y → W p l e R s m args below meth c H locs cells slots Q (F0 m (pc + 4) ls rest)) : W p l e R s m args below meth c H locs cells slots Q (F0 m pc ls (.long y :: .long x :: rest)) :=
  W.lcmp hexec hb d1 (lv_if_lt hexec hb d2 ht (fun h1 => kt ((xb_lcn x y).1.mp h1)) (fun h1 => kf (fun h2 => h1 ((xb_lcn x y).1.mpr h2))))
theorem xb_lc_gt (hexec : p.tables.exec = Jvm.exec) (hb : c.code = cc) {x y : Int64} {off : Int} {tgt : Nat} (d1 : decode cc pc = .ok (.lcmp, 1)) (d2 : decode cc (pc + 1) = .ok (.ifCond .gt off, 3)) (ht : ((pc + 1 : Nat) : Int) + off = (tgt : Int))
    (kt : y < x → W p l e R s m args below meth c H locs cells slots Q (F0 m tgt ls rest)) (kf : ¬ y < x → W p l e R s m args below meth c H locs cells slots Q (F0 m (pc + 4) ls rest)) : W p l e R s m args below meth c H locs cells slots Q (F0 m pc ls (.long y :: .long x :: rest)) :=
  W.lcmp hexec hb d1 (lv_if_gt hexec hb d2 ht (fun h1 => kt ((xb_lcn x y).2.1.mp h1)) (fun h1 => kf (fun h2 => h1 ((xb_lcn x y).2.1.mpr h2))))
theorem xb_lc_eq (hexec : p.tables.exec = Jvm.exec) (hb : c.code = cc) {x y : Int64} {off : Int} {tgt : Nat} (d1 : decode cc pc = .ok (.lcmp, 1)) (d2 : decode cc (pc + 1) = .ok (.ifCond .eq off, 3)) (ht : ((pc + 1 : Nat) : Int) + off = (tgt : Int))
    (kt : x = y → W p l e R s m args below meth c H locs cells slots Q (F0 m tgt ls rest)) (kf : ¬ x = y → W p l e R s m args below meth c H locs cells slots Q (F0 m (pc + 4) ls rest)) : W p l e R s m args below meth c H locs cells slots Q (F0 m pc ls (.long y :: .long x :: rest)) :=
  W.lcmp hexec hb d1 (lv_if_eq hexec hb d2 ht (fun h1 => kt ((xb_lcn x y).2.2.1.mp h1)) (fun h1 => kf (fun h2 => h1 ((xb_lcn x y).2.2.1.mpr h2))))
theorem xb_lc_ge (hexec : p.tables.exec = Jvm.exec) (hb : c.code = cc) {x y : Int64} {off : Int} {tgt : Nat} (d1 : decode cc pc = .ok (.lcmp, 1)) (d2 : decode cc (pc + 1) = .ok (.ifCond .ge off, 3)) (ht : ((pc + 1 : Nat) : Int) + off = (tgt : Int))
    (kt : y ≤ x → W p l e R s m args below meth c H locs cells slots Q (F0 m tgt ls rest)) (kf : ¬ y ≤ x → W p l e R s m args below meth c H locs cells slots Q (F0 m (pc + 4) ls rest)) : W p l e R s m args below meth c H locs cells slots Q (F0 m pc ls (.long y :: .long x :: rest)) :=
  W.lcmp hexec hb d1 (lv_if_ge hexec hb d2 ht (fun h1 => kt ((xb_lcn x y).2.2.2.1.mp h1)) (fun h1 => kf (fun h2 => h1 ((xb_lcn x y).2.2.2.1.mpr h2))))
theorem xb_lc_le (hexec : p.tables.exec = Jvm.exec) (hb : c.code = cc) {x y : Int64} {off : Int} {tgt : Nat} (d1 : decode cc pc = .ok (.lcmp, 1)) (d2 : decode cc (pc + 1) = .ok (.ifCond .le off, 3)) (ht : ((pc + 1 : Nat) : Int) + off = (tgt : Int))
    (kt : x ≤ y → W p l e R s m args below meth c H locs cells slots Q (F0 m tgt ls rest)) (kf : ¬ x ≤ y → W p l e R s m args below meth c H locs cells slots Q (F0 m (pc + 4) ls rest)) : W p l e R s m args below meth c H locs cells slots Q (F0 m pc ls (.long y :: .long x :: rest)) :=
  W.lcmp hexec hb d1 (lv_if_le hexec hb d2 ht (fun h1 => kt ((xb_lcn x y).2.2.2.2.mp h1)) (fun h1 => kf (fun h2 => h1 ((xb_lcn x y).2.2.2.2.mpr h2))))
theorem xb_lc_ne (hexec : p.tables.exec = Jvm.exec) (hb : c.code = cc) {x y : Int64} {off : Int} {tgt : Nat} (d1 : decode cc pc = .ok (.lcmp, 1)) (d2 : decode cc (pc + 1) = .ok (.ifCond .ne off, 3)) (ht : ((pc + 1 : Nat) : Int) + off = (tgt : Int))
    (kt : ¬ x = y → W p l e R s m args below meth c H locs cells slots Q (F0 m tgt ls rest)) (kf : x = y → W p l e R s m args below meth c H locs cells slots Q (F0 m (pc + 4) ls rest)) : W p l e R s m args below meth c H locs cells slots Q (F0 m pc ls (.long y :: .long x :: rest)) :=
  W.lcmp hexec hb d1 (lv_if_ne hexec hb d2 ht (fun h1 => kt (fun h2 => h1 ((xb_lcn x y).2.2.1.mpr h2))) (fun h1 => kf ((xb_lcn x y).2.2.1.mp h1)))
theorem xb_nl {x : Int32} (k : Int) (c : Int32) (hc : c.toInt = k) (h : ¬ x = c) : x.toInt ≠ k := fun h2 => h (Int32.toInt_inj.mp (h2.trans hc.symm))
theorem xb_d {T : List (Nat × Instr × Nat)} {b : ByteArray} (hD : ∀ q ∈ T, decode b q.1 = .ok (q.2.1, q.2.2)) (k : Nat) {pc n : Nat} {i : Instr} (h : T[k]? = some (pc, i, n)) : decode b pc = .ok (i, n) := hD (pc, i, n) (List.mem_of_getElem? h)
/-- what holds of a method's frame all along -/
def xb_C (own nm : String) (cc : ByteArray) (maxL : Nat) (tab : List ExceptionTableEntry) (ret : Option FieldType) (A : Nat → Prop) (σ : Nat) (p : Program) (s : State) (m : MethodId) (meth : Method) (c : Code) : Prop :=
  p.tables.exec = Jvm.exec ∧ c.code = cc ∧ s.vm.findClass own = some m.cls ∧ meth.locks = false ∧ c.exceptionTable.toList = tab ∧ c.maxLocals = maxL ∧ meth.sig.returnType = ret ∧ xb_B A σ s s.heap ∧ (∀ q, s.heap.size ≤ q → A q) ∧ meth.name = nm
/-- a place of a method, with these locals, operands, heap and room, ends as is asked -/
def xb_am (l : Launch) (D : va_G) (A : Nat → Prop) (σ d MC MS : Nat) (h0 : xb_H) (Qr : Option Value → xb_H → Prop) (Qt : String → xb_H → Prop) (own nm : String) (cc : ByteArray) (maxL : Nat) (tab : List ExceptionTableEntry) (ret : Option FieldType) (pc : Nat) (lo : List (Nat × Value)) (st : List Value) (h : xb_H) (bc bs : Nat) : Prop :=
  ∀ (p : Program) (e : Env) (s : State) (m : MethodId) (args : Array Value) (below : List Frame) (meth : Method) (c : Code), xb_C own nm cc maxL tab ret A σ p s m meth c →
    ∀ (H : Heap) (locs : List Loc) (ls : Array Slot) (k n : Nat), xb_ext h0 h → lv_has ls maxL lo → xb_R D A h s H → va_S A s.heap H locs → k + bc ≤ MC → n + bs ≤ MS →
      W p l e (xb_rm d MC MS) s m args below meth c H locs k n (xt_MQ below (xb_Qc D A h0 Qr Qt) args s MC MS A) (F0 m pc ls st)
theorem xb_ofAm {y : MethodName} {d bc bs maxL : Nat} {ret : Option FieldType} {av : List Value} {Qr : Option Value → xb_H → Prop} {Qt : String → xb_H → Prop} (hy : plainName y.cls = true) (hlen : (lg_sl av).length ≤ maxL)
    (ham : xb_am l D A σ d bc bs h Qr Qt y.cls y.name cc maxL [] ret 0 (lv_args 0 av) [] h bc bs) : xt_Met l y [Cond.code y cc maxL ret] (xb_rm d bc bs) (xb_Pc D A σ h av) (xb_Qc D A h Qr Qt) bc bs A := by
  refine xt_ofW (cc := cc) (maxL := maxL) (ret := ret) hy (List.mem_singleton.mpr rfl) ?_
  intro p e s m args below meth c s₁ B hml htab hv
  obtain ⟨rfl, hA, hB, hR⟩ := hv
  rw [lg_entry_eq]
  exact ham p e s m _ below meth c ⟨B.exec, B.bytes, findClass_of_methodNamed B.named, B.notSynchronized, htab, hml, B.returns, hB, hA, (name_of_methodNamed B.named B.method).1⟩ s.heap [] _ 0 0 (xb_ext.rf h) (lv_entry av hlen) hR va_S.rf (by omega) (by omega)
theorem xb_ofAmH {y : MethodName} {d bc bs maxL : Nat} {ret : Option FieldType} {hh : List (Nat × Nat × Nat × Nat)} {av : List Value} {Qr : Option Value → xb_H → Prop} {Qt : String → xb_H → Prop} (hy : plainName y.cls = true) (hlen : (lg_sl av).length ≤ maxL)
    (ham : xb_am l D A σ d bc bs h Qr Qt y.cls y.name cc maxL (tableOf hh) ret 0 (lv_args 0 av) [] h bc bs) : xt_Met l y [Cond.codeWith y cc maxL ret hh] (xb_rm d bc bs) (xb_Pc D A σ h av) (xb_Qc D A h Qr Qt) bc bs A := by
  refine xt_ofWH (cc := cc) (maxL := maxL) (ret := ret) hy (List.mem_singleton.mpr rfl) ?_
  intro p e s m args below meth c s₁ B hml htab hv
  obtain ⟨rfl, hA, hB, hR⟩ := hv
  rw [lg_entry_eq]
  exact ham p e s m _ below meth c ⟨B.exec, B.bytes, findClass_of_methodNamed B.named, B.notSynchronized, htab, hml, B.returns, hB, hA, (name_of_methodNamed B.named B.method).1⟩ s.heap [] _ 0 0 (xb_ext.rf h) (lv_entry av hlen) hR va_S.rf (by omega) (by omega)
end XBD
