-- the tables' words that stay true, as one predicate on a state
def xt_ok : Cond → Bool
  | .arrayClass _ => true
  | .fieldLinkNest .. => true
  | .methodLinkNest .. => true
  | .arrayOver (.object _) => true
  | w => w.onTables && w.keepsFace
theorem xt_word {w : Cond} (h : xt_ok w = true) {A A' : Array Value} {s U : State} (hW : s.WarmedH U.vm) (hb : w.before A s = true) : w.before A' U = true := by
  have key : (w.onTables && w.keepsFace) = true → w.before A' U = true := by
    intro h
    simp only [Bool.and_eq_true] at h
    exact va_tabs h.1 (rfl : (s.setVm U.vm).vm = U.vm) (Cond.before_shiftedFace (State.Shifted.of_warmed hW) w h.2 hb)
  cases w with
  | arrayClass ty => exact word_at hW (Or.inr ⟨ty, rfl⟩) hb
  | fieldLinkNest a i b n d h => exact va_Nw.use rfl (va_Nw.warmF hW (va_Nw.of rfl hb))
  | methodLinkNest a i x h => exact va_Nw.use rfl (va_Nw.warmM hW (va_Nw.of rfl hb))
  | arrayOver t =>
    cases t with
    | object C => exact va_AO.use (va_AO.moved hW.alike (va_AO.of hb))
    | _ => exact key h
  | _ => exact key h
def xt_tbl : List Cond := lw_tbl.filter xt_ok
theorem xt_in {w : Cond} (h : w ∈ lw_tbl) (h2 : xt_ok w = true) : w ∈ xt_tbl := List.mem_filter.mpr ⟨h, h2⟩
def xt_G (U : State) : Prop := ∀ w ∈ xt_tbl, w.before #[] U = true
theorem xt_G.warm {s U : State} (h : xt_G s) (hW : s.WarmedH U.vm) : xt_G U := fun w hw => xt_word (List.mem_filter.mp hw).2 hW (h w hw)
theorem xt_G.at {s : State} (h : xt_G s) (args : Array Value) : ∀ w ∈ xt_tbl, w.before args s = true := fun w hw => xt_word (List.mem_filter.mp hw).2 (State.WarmedH.refl s) (h w hw)
theorem xt_G.of {s : State} {args : Array Value} (h : ∀ w ∈ lw_tbl, w.before args s = true) : xt_G s := fun w hw => xt_word (List.mem_filter.mp hw).2 (State.WarmedH.refl s) (h w (List.mem_filter.mp hw).1)
theorem xt_G.same {u U : State} (hv : U.vm = u.vm) (h : xt_G u) : xt_G U := h.warm (by rw [hv]; exact State.WarmedH.refl u)
-- a static reference of Throwable, apart from what a method may write
def xt_z (n d : String) (A : Nat → Prop) (U : State) (H : Heap) : Prop := ∃ (c : ClassId) (k : Class) (i : Nat) (f : Field) (a : Nat) (cell : Cell) (v : Value), U.vm.findClass Bundle.tN = some c ∧ U.fieldFound? Bundle.tN n d = some (c, k, i, f) ∧ f.isStatic = true ∧ k.statics = some a ∧ H[a]? = some cell ∧ cell.vm.isStatics = true ∧ cell.cls = c ∧
  f.slot < cell.slots.size ∧ k.staticTypes[f.slot]? = some f.type ∧ cell.slots[f.slot]? = some v ∧ v.isRef = true ∧ ¬ A a
theorem xt_z.moved {n d : String} {A : Nat → Prop} {u U : State} {H : Heap} (hvm : u.vm.Alike U.vm) (h : xt_z n d A u H) : xt_z n d A U H := by
  obtain ⟨c, k, i, f, a, cell, v, h0, h1, h2, h3, h4, h5, h6, h7, h8, h9⟩ := h
  obtain ⟨k', hi', he⟩ := State.fieldFound?_setVm hvm h1
  exact ⟨c, k', i, f, a, cell, v, by rw [hvm.findClass]; exact h0, hi', h2, by rw [he]; exact h3, h4, h5, h6, h7, by rw [he]; exact h8, h9⟩
theorem xt_z.kept {n d : String} {A : Nat → Prop} {U : State} {H H1 : Heap} (h : xt_z n d A U H) (hq : ∀ a : Nat, a < H.size → ¬ A a → H1[a]? = H[a]?) : xt_z n d A U H1 := by
  obtain ⟨c, k, i, f, a, cell, v, h0, h1, h2, h3, h4, h5, h6, h7, h8, h9, h10, h11⟩ := h
  exact ⟨c, k, i, f, a, cell, v, h0, h1, h2, h3, by rw [hq a (Array.getElem?_eq_some_iff.mp h4).1 h11]; exact h4, h5, h6, h7, h8, h9, h10, h11⟩
theorem xt_z.narrow {n d : String} {A B : Nat → Prop} {U : State} {H : Heap} (h : xt_z n d A U H) (hAB : ∀ q, B q → A q) : xt_z n d B U H := by
  obtain ⟨c, k, i, f, a, cell, v, h0, h1, h2, h3, h4, h5, h6, h7, h8, h9, h10, h11⟩ := h
  exact ⟨c, k, i, f, a, cell, v, h0, h1, h2, h3, h4, h5, h6, h7, h8, h9, h10, fun z => h11 (hAB a z)⟩
theorem xt_z.use {n d : String} {A : Nat → Prop} {U : State} {args : Array Value} (h : xt_z n d A U U.heap) : (Cond.laysStatic Bundle.tN n d).before args U = true ∧ (Cond.isRef (.static Bundle.tN n d)).before args U = true := by
  obtain ⟨c, k, i, f, a, cell, v, h0, h1, h2, h3, h4, h5, h6, h7, h8, h9, h10, h11⟩ := h
  refine ⟨Cond.laysStatic_of h0 h1 h2 h3 h4 h5 h6 h7 h8, ?_⟩
  have he : (Term.static Bundle.tN n d).eval args U none [] U = some v := by
    simp [Term.eval, State.fieldNamed?, h1, h2, h3, h4, h5, h9]
  simp only [Cond.before, Cond.holds, Cond.value, he]
  cases v <;> first | rfl | (simp [Value.isRef] at h10)
theorem xt_z.of {n d : String} {A : Nat → Prop} {U : State} {args : Array Value} (hl : (Cond.laysStatic Bundle.tN n d).before args U = true) (hr : (Cond.isRef (.static Bundle.tN n d)).before args U = true) (hA : ∀ a : Nat, a < U.heap.size → ¬ A a) : xt_z n d A U U.heap := by
  obtain ⟨c, k, i, f, a, cell, h0, h1, h2, h3, h4, h5, h6, h7, h8⟩ := Cond.laysStatic_spec hl
  obtain ⟨u, hu⟩ := Cond.staticRefV h1 h2 h3 h4 h5 hr
  exact ⟨c, k, i, f, a, cell, u.v, h0, h1, h2, h3, h4, h5, h6, h7, h8, hu, u.ok, hA a (Array.getElem?_eq_some_iff.mp h4).1⟩
def xt_Z (A : Nat → Prop) (U : State) (H : Heap) : Prop := xt_z "UNASSIGNED_STACK" Bundle.steD A U H ∧ xt_z "SUPPRESSED_SENTINEL" Bundle.listD A U H
theorem xt_Z.moved {A : Nat → Prop} {u U : State} {H : Heap} (hvm : u.vm.Alike U.vm) (h : xt_Z A u H) : xt_Z A U H := ⟨h.1.moved hvm, h.2.moved hvm⟩
theorem xt_Z.kept {A : Nat → Prop} {U : State} {H H1 : Heap} (h : xt_Z A U H) (hq : ∀ a : Nat, a < H.size → ¬ A a → H1[a]? = H[a]?) : xt_Z A U H1 := ⟨h.1.kept hq, h.2.kept hq⟩
theorem xt_Z.narrow {A B : Nat → Prop} {U : State} {H : Heap} (h : xt_Z A U H) (hAB : ∀ q, B q → A q) : xt_Z B U H := ⟨h.1.narrow hAB, h.2.narrow hAB⟩
-- String constants of the messages
def xt_S (U : State) : Prop := ∀ q ∈ xt_strs, ∃ a, vk_R q.1 q.2.1 q.2.2 a U
theorem xt_S.warm {s U : State} (h : xt_S s) (hW : s.WarmedH U.vm) : xt_S U := fun q hq => by
  obtain ⟨a, ha⟩ := h q hq
  exact ⟨a, ha.warm hW⟩
theorem xt_strOf {own tx : String} {k : Nat} {A : Array Value} {U : State} (h : (Cond.stringRef own k tx).before A U = true) : ∃ a, vk_R own k tx a U := by
  cases hf : U.vm.findClass own with
  | none => simp [Cond.before, Cond.holds, Cond.value, hf] at h
  | some d =>
    obtain ⟨kk, cf, i, a, -, -, -, -, -, hev⟩ := Cond.stringRef_spec hf h
    have h1 : (Cond.stringRef own k tx).before #[] U = true := h
    exact ⟨a, h1, hev⟩
-- classes that can't be cast
def xt_N (U : State) : Prop := ∀ q ∈ xt_ncs, va_Nc q.1 q.2 U
-- the bytes that a module begins with
def xt_Mg (A : Nat → Prop) (U : State) (H : Heap) : Prop := ∃ t : Nat, va_Z "StackHost" "MAGIC" "[B" (.ref t) A U H ∧ va_T .byte t 8 (fun j => .int (xt_mg j)) A U H
-- all that a method may lean on besides its own cells
def xt_B (A : Nat → Prop) (U : State) (H : Heap) : Prop := xt_G U ∧ xt_S U ∧ xt_Z A U H ∧ xt_N U ∧ xt_Mg A U H
theorem xt_B.warm {A : Nat → Prop} {s U : State} {H : Heap} (h : xt_B A s H) (hW : s.WarmedH U.vm) : xt_B A U H := by
  obtain ⟨h1, h2, h3, h4, t, h5, h6⟩ := h
  exact ⟨h1.warm hW, h2.warm hW, h3.moved hW.alike, fun q hq => (h4 q hq).moved hW.alike, t, h5.moved hW.alike, h6.moved hW.alike⟩
theorem xt_B.same {A : Nat → Prop} {u U : State} {H : Heap} (hv : U.vm = u.vm) (h : xt_B A u H) : xt_B A U H := h.warm (by rw [hv]; exact State.WarmedH.refl u)
theorem xt_B.sub {A B : Nat → Prop} {U : State} {H H1 : Heap} {locs : List Loc} (h : xt_B A U H) (hS : va_S A H H1 locs) (hAB : ∀ q, B q → A q) : xt_B B U H1 := by
  obtain ⟨h1, h2, h3, h4, t, h5, h6⟩ := h
  exact ⟨h1, h2, (h3.kept hS.2.1).narrow hAB, h4, t, (h5.kept hS.2.1).narrow hAB, (h6.kept hS.2.1).narrow hAB⟩
-- a method's start and end, over its cells
def xt_P (D : va_G) (cl : List vw_C) (av : List Value) (ws : va_W) (tys : List (ClassId × FieldType)) (sz : Nat) : Array Value → State → Prop := fun v U =>
  v = av.toArray ∧ U.heap.size = sz ∧ xt_B (va_A ws sz) U U.heap ∧ va_P D cl ws U.heap ∧ va_K D cl tys U ∧ va_D (fun _ => True) ws
def xt_Q {S : Type} (D : va_G) (cl : List vw_C) (A : Nat → Prop) (post : Option Value → S → Prop) (thr : String → S → Prop) (W1 : S → va_W) (T1 : S → List (ClassId × FieldType)) : Array Value → State → Outcome → State → Prop := fun _ st oc t =>
  ∃ u : S, ((∃ v, oc = .returned v ∧ post v u) ∨ ∃ X a, oc = .threw a ∧ thr X u ∧ xt_Ex X a t t.heap) ∧ va_P D cl (W1 u) t.heap ∧ va_K D cl (T1 u) t ∧ va_D A (W1 u) ∧ va_F A st t
theorem xt_blind {D : va_G} {cl : List vw_C} {av : List Value} {ws : va_W} {tys : List (ClassId × FieldType)} {sz : Nat} : FrameBlind (xt_P D cl av ws tys sz) := by
  intro a U g mk h
  obtain ⟨h1, h2, h3, h4, h5, h6⟩ := h
  exact ⟨h1, h2, xt_B.same (u := U) rfl h3, h4, va_K.moved (u := U) (U := U.calling g mk a) (Vm.Alike.refl U.vm) h5, h6⟩
theorem xt_fm {α β : Type} {f : α → Option β} : ∀ {is : List α} {w : List β}, is.map f = w.map some → is.filterMap f = w
  | [], [], _ => rfl
  | [], _ :: _, h => by simp at h
  | _ :: _, [], h => by simp at h
  | a :: is, b :: w, h => by
    simp only [List.map_cons, List.cons.injEq] at h
    simp [List.filterMap_cons, h.1, xt_fm h.2]
section XTE
variable {p : Program} {l : Launch} {e : Env} {R : Room} {s : State} {m : MethodId} {args : Array Value} {below : List Frame} {meth : Method} {c : Code} {H : Heap} {locs : List Loc} {cells slots : Nat} {Q : State → Prop}
variable {D : va_G} {cl : List vw_C} {A : Nat → Prop} {tys : List (ClassId × FieldType)} {ws : va_W}
/-- a call, world by world: wc goes to the callee, wr stays -/
theorem xt_call {S : Type} {y : MethodName} {wy : List Cond} {rm : Room} {mc ms maxL : Nat} {av : List Value} {wc wr : va_W} {tc : List (ClassId × FieldType)} {post : Option Value → S → Prop} {thr : String → S → Prop} {W1 : S → va_W} {T1 : S → List (ClassId × FieldType)} {pc : Nat} {ls : Array Slot} {st0 rest : List Value} {ig : Instr}
    (hinv : ∀ T : State, T.heap = H → Stand p l e R s m args below meth c T locs cells slots → xt_Inv p l e R s m args below meth c T locs cells slots (F0 m pc ls st0) rest y av)
    (hM : xt_Met l y wy rm (xt_P D cl av wc tc H.size) (xt_Q D cl (va_A wc H.size) post thr W1 T1) mc ms (va_A wc H.size))
    (hml : c.maxLocals = ls.size) (hdg : decode c.code pc = .ok (ig, 3)) (hwt : (rest.map fun v => v.category).sum ≤ 8)
    (hrc : rm.cells = mc) (hrs : rm.slots = ms) (hfr : rm.frames + 1 ≤ R.frames) (hlo : 8 + (maxL + 11) + rm.locals ≤ R.locals) (hfc : cells + mc ≤ R.cells) (hfs : slots + ms ≤ R.slots)
    (hws : ∀ w ∈ wy, ∀ a' U, s.WarmedH U.vm → w.before a' U = true) (hcd : ∀ U : State, s.WarmedH U.vm → xt_cd y maxL U) (hinit : (Cond.initialized y.cls).before args s = true)
    (hB : xt_B A s s.heap) (hK : va_K D cl tys s) (hP : va_P D cl ws H) (hD : va_D A ws) (hS : va_S A s.heap H locs) (hA : ∀ q, s.heap.size ≤ q → A q)
    (isC isR isT : List Nat) (hC : isC.map (fun i => ws[i]?) = wc.map some) (hR : isR.map (fun i => ws[i]?) = wr.map some) (hT : isT.filterMap (fun i => tys[i]?) = tc) (hn : va_nd isR = true) (hnc : va_nd isC = true) (hdis : ∀ i ∈ isR, i ∉ isC)
    (kr : ∀ (v : Option Value) (u : S) (H1 : Heap) (locs1 : List Loc), post v u → va_P D cl (wr ++ W1 u) H1 → va_D A (wr ++ W1 u) → va_K D cl (tys ++ T1 u) s → va_S A s.heap H1 locs1 → W p l e R s m args below meth c H1 locs1 (cells + mc) (slots + ms) Q (F0 m (pc + 3) ls (v.toList ++ rest)))
    (kt : ∀ (X : String) (a : Nat) (u : S) (H1 : Heap) (locs1 : List Loc), thr X u → xt_Ex X a s H1 → va_P D cl (wr ++ W1 u) H1 → va_D A (wr ++ W1 u) → va_K D cl (tys ++ T1 u) s → va_S A s.heap H1 locs1 → xt_WT p l e R s m args below meth c H1 locs1 (cells + mc) (slots + ms) Q (F0 m pc ls rest) a) :
    W p l e R s m args below meth c H locs cells slots Q (F0 m pc ls st0) := by
  intro T hTH X
  have hFc : ∀ q, va_A wc H.size q → A q := va_free hD hS hA isC hC
  have hPc := hP.sub (ws' := wc) isC (xt_fm hC)
  have hDc := hD.sub (ws' := wc) isC hnc hC
  have hKc := hK.sub (tys' := tc) isT hT
  have hBc : xt_B (va_A wc H.size) s H := hB.sub hS hFc
  obtain ⟨vm₁, mk, X₁, hnm, hstep⟩ := hinv T hTH X
  have hK9 : xt_Back l R p e below s args y 3 8 (PreOf R mc ms (xt_P D cl av wc tc H.size)) (xt_Post (xt_Q D cl (va_A wc H.size) post thr W1 T1) mc ms (va_A wc H.size)) :=
    xt_back (maxL := maxL) hM xt_blind hrc hrs hfr hlo hws hcd (fun a' U hW => word_at hW (Or.inl (by first | rfl | simp [Cond.onTables, Cond.keeps, Cond.steady])) hinit)
  have hpre : xt_P D cl av wc tc H.size av.toArray (T.setVm vm₁) := by
    have hh : (T.setVm vm₁).heap = H := hTH
    exact ⟨rfl, by rw [hh], by rw [hh]; exact hBc.warm X₁.warmed, by rw [hh]; exact hPc, va_K.moved X₁.warmed.alike hKc, hDc.weaken (fun _ _ _ _ => trivial)⟩
  obtain ⟨o, ⟨U', l2, c2, s2⟩, X', ⟨g', mk', t, L, e1, e2, ⟨u, ho, hP1, hK1, hD1, hz, hk⟩, h1, hL, h2, h3⟩, st⟩ := hK9 m meth c ⟨T.setVm vm₁, locs, cells, slots⟩ (F0 m pc ls rest) ig mk av.toArray X₁ rfl hml.symm hdg (by simpa [JFrame.monitorRoom] using hwt) hnm ⟨hfc, hfs, hpre⟩
  dsimp only [Pt.U, Pt.locs, Pt.cells, Pt.slots] at X' e1 e2 h1 h2 h3 st
  subst h1; subst h2; subst h3
  have hst : ((T.setVm vm₁).calling g' mk' av.toArray).heap = H := hTH
  rw [hst] at hz hk
  rw [← e1] at hP1 hz hk
  have hsz : s.vm.Alike t.vm := by rw [← e2]; exact X'.warmed.alike
  have hK2 : va_K D cl (T1 u) s := va_K.moved hsz.symm hK1
  obtain ⟨hPj, hDj⟩ := va_join (wr := wr) (w1 := W1 u) hP hD isC isR hC hR hn hdis hk hFc hP1 hD1
  have hKj := hK.app hK2
  have hSj : va_S A s.heap U'.heap (locs ++ L) := ⟨Nat.le_trans hS.1 hz, fun q h1 h2 => by rw [hk q (Nat.lt_of_lt_of_le h1 hS.1) (fun z => h2 (hFc q z))]; exact hS.2.1 q h1 h2, fun q hq => by
    rcases List.mem_append.mp hq with h | h
    · exact hS.2.2 q h
    · exact hFc _ (hL q h)⟩
  rcases ho with ⟨v, rfl, hp⟩ | ⟨Xn, a, rfl, hth, hex⟩
  · obtain ⟨t2, a1, b1⟩ := kr v u U'.heap (locs ++ L) hp hPj hDj hKj hSj U' rfl X'
    exact ⟨t2, hstep t2 fun acts => by rw [doInvoke_state]; exact st.trans a1, b1⟩
  · obtain ⟨t2, a1, b1⟩ := kt Xn a u U'.heap (locs ++ L) hth (by rw [e1]; exact hex.moved hsz.symm) hPj hDj hKj hSj U' rfl X'
    exact ⟨t2, hstep t2 fun acts => by rw [doInvoke_state]; exact st.trans a1, b1⟩
end XTE
-- a callee's words out of the tables
theorem xt_w1 {A : Nat → Prop} {s : State} {H : Heap} {w0 : Cond} (hB : xt_B A s H) (h : w0 ∈ xt_tbl) : ∀ w ∈ [w0], ∀ (a' : Array Value) (U : State), s.WarmedH U.vm → w.before a' U = true := fun w hw a' U hW => by
  cases List.mem_singleton.mp hw
  exact xt_word (List.mem_filter.mp h).2 hW (hB.1 _ h)
theorem xt_cdOf {A : Nat → Prop} {s : State} {H : Heap} {y : MethodName} {bytes : ByteArray} {maxL : Nat} {ret : Option FieldType} (hB : xt_B A s H) (h : Cond.code y bytes maxL ret ∈ xt_tbl) : ∀ U : State, s.WarmedH U.vm → xt_cd y maxL U := fun U hW mk hn => by
  obtain ⟨mt, cd, h1, h2, -, h4, -⟩ := Cond.code_spec (args := #[]) hn (xt_word (List.mem_filter.mp h).2 hW (hB.1 _ h))
  exact ⟨mt, cd, h1, h2, h4⟩
theorem xt_cdOfH {A : Nat → Prop} {s : State} {H : Heap} {y : MethodName} {bytes : ByteArray} {maxL : Nat} {ret : Option FieldType} {hh : List (Nat × Nat × Nat × Nat)} (hB : xt_B A s H) (h : Cond.codeWith y bytes maxL ret hh ∈ xt_tbl) : ∀ U : State, s.WarmedH U.vm → xt_cd y maxL U := fun U hW mk hn => by
  obtain ⟨m9, mt, cd, hn9, h1, h2, -, h4, -⟩ := Cond.codeWith_spec (args := #[]) (xt_word (List.mem_filter.mp h).2 hW (hB.1 _ h))
  cases hn.symm.trans hn9
  exact ⟨mt, cd, h1, h2, h4⟩
theorem xt_sigOf {args : Array Value} {s : State} {y : MethodName} {bytes : ByteArray} {maxL : Nat} {ret : Option FieldType} (h : (Cond.code y bytes maxL ret).before args s = true) : ∀ (mk : MethodId) (mt : Method), s.methodNamed? y = some mk → s.vm.method? mk = some mt → parseMethodDescriptor y.desc = some mt.sig := fun mk mt hn hm => by
  obtain ⟨mt', cd, h1, -, -, -, -, -, -, h8⟩ := Cond.code_spec hn h
  cases hm.symm.trans h1
  exact h8
theorem xt_sigOfH {args : Array Value} {s : State} {y : MethodName} {bytes : ByteArray} {maxL : Nat} {ret : Option FieldType} {hh : List (Nat × Nat × Nat × Nat)} (h : (Cond.codeWith y bytes maxL ret hh).before args s = true) : ∀ (mk : MethodId) (mt : Method), s.methodNamed? y = some mk → s.vm.method? mk = some mt → parseMethodDescriptor y.desc = some mt.sig := fun mk mt hn hm => by
  obtain ⟨m9, mt', cd, hn9, h1, -, -, -, -, -, -, h8⟩ := Cond.codeWith_spec h
  cases hn.symm.trans hn9
  cases hm.symm.trans h1
  exact h8
theorem xt_sgS {args : Array Value} {s : State} {y : MethodName} {bytes : ByteArray} {maxL : Nat} {ret : Option FieldType} (h : (Cond.code y bytes maxL ret).before args s = true) : (∃ mk, s.methodNamed? y = some mk) ∧ ∀ (mk : MethodId), s.methodNamed? y = some mk → ∃ mt : Method, s.vm.method? mk = some mt ∧ parseMethodDescriptor y.desc = some mt.sig := by
  refine ⟨Cond.code_named h, fun mk hn => ?_⟩
  obtain ⟨mt', cd, h1, -, -, -, -, -, -, h8⟩ := Cond.code_spec hn h
  exact ⟨mt', h1, h8⟩
theorem xt_sgSH {args : Array Value} {s : State} {y : MethodName} {bytes : ByteArray} {maxL : Nat} {ret : Option FieldType} {hh : List (Nat × Nat × Nat × Nat)} (h : (Cond.codeWith y bytes maxL ret hh).before args s = true) : (∃ mk, s.methodNamed? y = some mk) ∧ ∀ (mk : MethodId), s.methodNamed? y = some mk → ∃ mt : Method, s.vm.method? mk = some mt ∧ parseMethodDescriptor y.desc = some mt.sig := by
  obtain ⟨m9, mt', cd, hn9, h1, -, -, -, -, -, -, h8⟩ := Cond.codeWith_spec h
  refine ⟨⟨m9, hn9⟩, fun mk hn => ?_⟩
  cases hn.symm.trans hn9
  exact ⟨mt', h1, h8⟩
-- numbers
section XTN
variable {p : Program} {l : Launch} {e : Env} {R : Room} {s : State} {m : MethodId} {args : Array Value} {below : List Frame} {meth : Method} {c : Code} {H : Heap} {locs : List Loc} {cells slots : Nat} {Q : State → Prop} {pc : Nat} {ls : Array Slot} {rest : List Value}
theorem xt_numi {x y : Int32} (h : x = y) (k : W p l e R s m args below meth c H locs cells slots Q (F0 m pc ls (.int y :: rest))) : W p l e R s m args below meth c H locs cells slots Q (F0 m pc ls (.int x :: rest)) := by subst h; exact k
theorem xt_numl {x y : Int64} (h : x = y) (k : W p l e R s m args below meth c H locs cells slots Q (F0 m pc ls (.long y :: rest))) : W p l e R s m args below meth c H locs cells slots Q (F0 m pc ls (.long x :: rest)) := by subst h; exact k
end XTN
theorem xt_vin {i : Int32} {n : Nat} (h : ¬ (i < 0 ∨ n ≤ i.toNatClampNeg)) : vp_in i n := h
theorem xt_toI (x y : Int32) : (x < y ↔ x.toInt < y.toInt) ∧ (x ≤ y ↔ x.toInt ≤ y.toInt) ∧ (x = y ↔ x.toInt = y.toInt) := ⟨Int32.lt_iff_toInt_lt, Int32.le_iff_toInt_le, Int32.toInt_inj.symm⟩
theorem xt_c (k : Nat) (h : k < 2 ^ 31) : (Int32.ofNat k).toInt = k := nI_toInt h
theorem xt_ge4 {w : Int32} (h : 3 < w) : 4 ≤ w := by
  have h0 : (3 : Int32).toInt = 3 := by decide
  have h1 : (4 : Int32).toInt = 4 := by decide
  rw [(xt_toI _ _).1, h0] at h
  rw [(xt_toI _ _).2.1, h1]
  omega
theorem xt_lt4 {w : Int32} (h : 3 < w) : ¬ w < 4 := Int32.not_lt.mpr (xt_ge4 h)
theorem xt_sg (w : Int32) : w = 0 ∨ (w < 0 ∨ 0 < w) := by
  have h0 : (0 : Int32).toInt = 0 := by decide
  rw [(xt_toI w 0).2.2, (xt_toI w 0).1, (xt_toI 0 w).1, h0]
  omega
theorem xt_01 (w : Int32) : w = 0 ∨ w = 1 ∨ (w < 0 ∨ 1 < w) := by
  have h0 : (0 : Int32).toInt = 0 := by decide
  have h1 : (1 : Int32).toInt = 1 := by decide
  rw [(xt_toI w 0).2.2, (xt_toI w 1).2.2, (xt_toI w 0).1, (xt_toI 1 w).1, h0, h1]
  omega
theorem xt_03 (w : Int32) : w = 0 ∨ w = 1 ∨ w = 2 ∨ w = 3 ∨ (w < 0 ∨ 3 < w) := by
  have h0 : (0 : Int32).toInt = 0 := by decide
  have h1 : (1 : Int32).toInt = 1 := by decide
  have h2 : (2 : Int32).toInt = 2 := by decide
  have h3 : (3 : Int32).toInt = 3 := by decide
  rw [(xt_toI w 0).2.2, (xt_toI w 1).2.2, (xt_toI w 2).2.2, (xt_toI w 3).2.2, (xt_toI w 0).1, (xt_toI 3 w).1, h0, h1, h2, h3]
  omega
theorem xt_n0 {w : Int32} (h : w < 0 ∨ 1 < w) : ¬ w = 0 := by
  rintro rfl
  revert h
  decide
theorem xt_n1 {w : Int32} (h : w < 0 ∨ 1 < w) : ¬ w = 1 := by
  rintro rfl
  revert h
  decide
theorem xt_mil (w : Int32) : (w < 0 ∨ 1000000 < w) ∨ (¬ w < 0 ∧ w ≤ 1000000) := by
  by_cases h1 : w < 0
  · exact Or.inl (Or.inl h1)
  · by_cases h2 : 1000000 < w
    · exact Or.inl (Or.inr h2)
    · exact Or.inr ⟨h1, Int32.not_lt.mp h2⟩
theorem xt_neg {L : Nat} (h : L < 6) : Int32.ofNat L - 6 < 0 := by
  have h1 : L = 0 ∨ L = 1 ∨ L = 2 ∨ L = 3 ∨ L = 4 ∨ L = 5 := by omega
  rcases h1 with rfl | rfl | rfl | rfl | rfl | rfl <;> decide
theorem xt_cl0 : (0 : Int32).toNatClampNeg = 0 := by decide
theorem xt_cl1 : (1 : Int32).toNatClampNeg = 1 := by decide
theorem xt_cl2 : (2 : Int32).toNatClampNeg = 2 := by decide
theorem xt_cl3 : (3 : Int32).toNatClampNeg = 3 := by decide
theorem xt_cl4 : (4 : Int32).toNatClampNeg = 4 := by decide
theorem xt_cl5 : (5 : Int32).toNatClampNeg = 5 := by decide
def lcA (s : State) : Nat → Prop := fun q => s.heap.size ≤ q
