/-! THE CLAIM OUT OF ONE WALK OF THE LAW'S BODY. Your part is whole_start (and what it stands on); all else here is the same for every law, but numbers. -/
def R_law : String := "StackHostLaw"
def lw_P (b : Addr) (xs : List Int32) (args : Array Value) (s : State) : Prop := args = #[.ref b] ∧ s.IntsAt b xs ∧ xs.length ≤ 6 ∧ (Jvm.Cond.and given_1 narrow_1).before args s = true
def lw_Q (_ : Array Value) (s : State) (o : Outcome) (t : State) : Prop := o = .returned (some (.int 1)) ∧ Framed s o t [] 600002 7302232
def lw_Z (below : List Frame) (a : Array Value) (s : State) : State → Prop := fun t => ∃ o, t.status = .running ∧ Ended t below o ∧ lw_Q a s o t
/-- the law's own end, with 1 on the stack, nothing written that was there before, its room as the claim has it -/
theorem lw_ret {p : Program} {l : Launch} {e : Env} {s : State} {m : MethodId} {below : List Frame} {meth : Method} {c : Code} {b : Nat} (hx : p.tables.exec = Jvm.exec) (hb : c.code = code) (hr : meth.sig.returnType = ret) (hlocks : meth.locks = false) {pc : Nat} {H : Heap} {ls : Array Slot} (hdg : decode code pc = .ok (.ireturn, 1)) : W p l e room_1 s m #[Value.ref b] below meth c H [] 600002 7302232 (lw_Z below #[Value.ref b] s) (F0 m pc ls [.int 1]) := by
  intro T hT X
  obtain ⟨fs, hret, hrun, hended, hW, hframe⟩ := X.leave (v := some (.int 1)) (hlocks := hlocks) (fun h => by rw [hr] at h; cases h)
  have hmeth' : T.vm.method? m = some meth := X.method'
  refine ⟨T.setFrames fs, ?_, .returned (some (.int 1)), hrun, hended, rfl, ⟨_, rfl⟩, hW, hframe⟩
  jvm_step X.here [X.here.top, hx, hb, hdg, hmeth', hr, ret, narrow_b1]
  (try refine ⟨rfl, ?_⟩); (try refine ⟨rfl, ?_⟩)
  first | (intro acts; rw [hret _ acts rfl rfl rfl]) | rw [hret _ _ rfl rfl rfl]
  exact Steps.refl _
/-- what holds at the law's entry: the machine, the code, the tables' words (any of lw_tbl by 'hts w (by decide +kernel)'), the script of L ints xs at the cell b, what the Statement gives of the start (any of its parts by flat_of_before) -/
def lw_At (p : Program) (s : State) (m : MethodId) (meth : Method) (c : Code) (b L : Nat) (xs : Nat → Int32) : Prop :=
  p.tables.exec = Jvm.exec ∧ c.code = code ∧ meth.sig.returnType = ret ∧ c.maxLocals = 8 ∧ s.vm.findClass R_law = some m.cls ∧ (∀ w ∈ lw_tbl, w.before #[Value.ref b] s = true) ∧ va_X b L xs s s.heap ∧ b < s.heap.size ∧ meth.locks = false ∧ (Jvm.Cond.and given_1 narrow_1).before #[Value.ref b] s = true
theorem xt_strIn : ∀ q ∈ xt_strs, (Cond.stringRef q.1 q.2.1 q.2.2) ∈ lw_tbl := by
  show ∀ q ∈ [("StackHost", 88, "the tape has not so many bytes"), ("StackHost", 119, "a fault has no such number"), ("StackHost", 159, "there is no such module"), ("StackHost", 214, "there is no such instance"), ("StackHost", 260, "there is no such fuel"), ("StackHost", 262, "nothing is under way"), ("StackHost", 281, "a trap has no such number"), ("StackHost", 341, "there is no such number in OUT"), ("StackHost$StackModule", 79, "the module has a fault")], _
  exact List.forall_mem_cons.mpr ⟨(xt_t3 (List.mem_of_getElem? (i := 20) (by decide +kernel))), List.forall_mem_cons.mpr ⟨(xt_t6 (List.mem_of_getElem? (i := 73) (by decide +kernel))), List.forall_mem_cons.mpr ⟨(xt_t6 (List.mem_of_getElem? (i := 88) (by decide +kernel))), List.forall_mem_cons.mpr ⟨(xt_t7 (List.mem_of_getElem? (i := 131) (by decide +kernel))), List.forall_mem_cons.mpr ⟨(xt_t7 (List.mem_of_getElem? (i := 201) (by decide +kernel))), List.forall_mem_cons.mpr ⟨(xt_t7 (List.mem_of_getElem? (i := 202) (by decide +kernel))), List.forall_mem_cons.mpr ⟨(xt_t9 (List.mem_of_getElem? (i := 30) (by decide +kernel))), List.forall_mem_cons.mpr ⟨(xt_t9 (List.mem_of_getElem? (i := 87) (by decide +kernel))), List.forall_mem_cons.mpr ⟨(xt_t3 (List.mem_of_getElem? (i := 178) (by decide +kernel))), fun _ h => absurd h List.not_mem_nil⟩⟩⟩⟩⟩⟩⟩⟩⟩
set_option maxHeartbeats 4000000 in
set_option maxRecDepth 100000 in
/-- what the Statement gives of the start, in this proof's words -/
theorem xt_given {s : State} {b : Nat} (hts : ∀ w ∈ lw_tbl, w.before #[Value.ref b] s = true) (hgv : (Jvm.Cond.and given_1 narrow_1).before #[Value.ref b] s = true) : xt_B (lcA s) s s.heap := by
  have hg := flat_of_before _ hgv
  have hA0 : ∀ a : Nat, a < s.heap.size → ¬ lcA s a := fun a h h2 => Nat.not_le.mpr h h2
  refine ⟨xt_G.of hts, fun q hq => xt_strOf (hts _ (xt_strIn q hq)), ⟨?_, ?_⟩, ?_, ?_⟩
  · exact xt_z.of (hts (.laysStatic "java/lang/Throwable" "UNASSIGNED_STACK" "[Ljava/lang/StackTraceElement;") (xt_t2 (List.mem_of_getElem? (i := 180) (by decide +kernel)))) (hg (.isRef (.static "java/lang/Throwable" "UNASSIGNED_STACK" "[Ljava/lang/StackTraceElement;")) (by decide +kernel)) hA0
  · exact xt_z.of (hts (.laysStatic "java/lang/Throwable" "SUPPRESSED_SENTINEL" "Ljava/util/List;") (xt_t2 (List.mem_of_getElem? (i := 182) (by decide +kernel)))) (hg (.isRef (.static "java/lang/Throwable" "SUPPRESSED_SENTINEL" "Ljava/util/List;")) (by decide +kernel)) hA0
  · show ∀ q ∈ [("java/lang/IllegalStateException", "java/lang/IllegalArgumentException")], _
    exact List.forall_mem_cons.mpr ⟨va_Nc.of (hg (.not (.castable "java/lang/IllegalStateException" "java/lang/IllegalArgumentException")) (by decide +kernel)), fun _ h => absurd h List.not_mem_nil⟩
  · have hel : ∀ j : Nat, j < 8 → (Term.elem (.static "StackHost" "MAGIC" "[B") (.int (Int32.ofNat j))).eval #[Value.ref b] s none [] s = some (.int (xt_mg j)) := by
      intro j hj
      have hj2 : j = 0 ∨ j = 1 ∨ j = 2 ∨ j = 3 ∨ j = 4 ∨ j = 5 ∨ j = 6 ∨ j = 7 := by omega
      rcases hj2 with rfl | rfl | rfl | rfl | rfl | rfl | rfl | rfl
      · exact va_eqt (hg (.eq (.elem (.static "StackHost" "MAGIC" "[B") (.int 0)) (.int 0)) (by decide +kernel))
      · exact va_eqt (hg (.eq (.elem (.static "StackHost" "MAGIC" "[B") (.int 1)) (.int 97)) (by decide +kernel))
      · exact va_eqt (hg (.eq (.elem (.static "StackHost" "MAGIC" "[B") (.int 2)) (.int 115)) (by decide +kernel))
      · exact va_eqt (hg (.eq (.elem (.static "StackHost" "MAGIC" "[B") (.int 3)) (.int 109)) (by decide +kernel))
      · exact va_eqt (hg (.eq (.elem (.static "StackHost" "MAGIC" "[B") (.int 4)) (.int 1)) (by decide +kernel))
      · exact va_eqt (hg (.eq (.elem (.static "StackHost" "MAGIC" "[B") (.int 5)) (.int 0)) (by decide +kernel))
      · exact va_eqt (hg (.eq (.elem (.static "StackHost" "MAGIC" "[B") (.int 6)) (.int 0)) (by decide +kernel))
      · exact va_eqt (hg (.eq (.elem (.static "StackHost" "MAGIC" "[B") (.int 7)) (.int 0)) (by decide +kernel))
    obtain ⟨t, ht, hT⟩ := va_Tof (tm := (.static "StackHost" "MAGIC" "[B")) (ty := .byte) (N := 8) (f := fun j => .int (xt_mg j)) (by decide) (hg (.arrayOf (.static "StackHost" "MAGIC" "[B") .byte) (by decide +kernel)) (va_eqt (hg (.eq (.length (.static "StackHost" "MAGIC" "[B")) (.int 8)) (by decide +kernel))) hel hA0
    exact ⟨t, va_Zref (hts (.laysStatic "StackHost" "MAGIC" "[B") (xt_t3 (List.mem_of_getElem? (i := 172) (by decide +kernel)))) (hts (.initialized "StackHost") (xt_t1 (List.mem_of_getElem? (i := 1) (by decide +kernel)))) ht hA0, hT⟩
set_option maxHeartbeats 4000000 in
/-- the classes, as the tables have them -/
theorem xt_classes {s : State} {args : Array Value} (hts : ∀ w ∈ xt_tbl, w.before args s = true) : ∃ D : va_G, va_K D xcl [] s := by
  obtain ⟨c0, i0, h0⟩ := u_known (C := R_H) (T := F_H) (N := 11) (n := 11) hts fin_H (hts (.instantiable "StackHost" 11) (xt_in (xt_t1 (List.mem_of_getElem? (i := 35) (by decide +kernel))) (by decide +kernel)))
  obtain ⟨c1, i1, h1⟩ := u_known (C := R_Row) (T := F_Row) (N := 3) (n := 3) hts fin_Row (hts (.instantiable "StackHost$Row" 3) (xt_in (xt_t1 (List.mem_of_getElem? (i := 139) (by decide +kernel))) (by decide +kernel)))
  obtain ⟨c2, i2, h2⟩ := u_known (C := R_StackModule) (T := F_StackModule) (N := 19) (n := 19) hts fin_StackModule (hts (.instantiable "StackHost$StackModule" 19) (xt_in (xt_t3 (List.mem_of_getElem? (i := 39) (by decide +kernel))) (by decide +kernel)))
  obtain ⟨c3, i3, h3⟩ := u_known (C := R_Reader) (T := F_Reader) (N := 6) (n := 6) hts fin_Reader (hts (.instantiable "StackHost$Reader" 6) (xt_in (xt_t1 (List.mem_of_getElem? (i := 45) (by decide +kernel))) (by decide +kernel)))
  obtain ⟨c4, i4, h4⟩ := u_known (C := R_Checker) (T := F_Checker) (N := 17) (n := 17) hts fin_Checker (hts (.instantiable "StackHost$Checker" 17) (xt_in (xt_t1 (List.mem_of_getElem? (i := 72) (by decide +kernel))) (by decide +kernel)))
  obtain ⟨c5, i5, h5⟩ := u_known (C := R_Format) (T := F_Format) (N := 5) (n := 5) hts fin_Format (hts (.instantiable "StackHost$Format" 5) (xt_in (xt_t1 (List.mem_of_getElem? (i := 237) (by decide +kernel))) (by decide +kernel)))
  obtain ⟨c6, i6, h6⟩ := u_known (C := R_World) (T := F_World) (N := 16) (n := 16) hts fin_World (hts (.instantiable "StackHost$World" 16) (xt_in (xt_t1 (List.mem_of_getElem? (i := 131) (by decide +kernel))) (by decide +kernel)))
  obtain ⟨c7, i7, h7⟩ := u_known (C := R_Machine) (T := F_Machine) (N := 18) (n := 18) hts fin_Machine (hts (.instantiable "StackHost$Machine" 18) (xt_in (xt_t1 (List.mem_of_getElem? (i := 231) (by decide +kernel))) (by decide +kernel)))
  obtain ⟨c8, i8, h8⟩ := u_known (C := R_M) (T := F_M) (N := 97) (n := 97) hts fin_M (hts (.instantiable "StackHostModel" 97) (xt_in (xt_t9 (List.mem_of_getElem? (i := 89) (by decide +kernel))) (by decide +kernel)))
  obtain ⟨c9, i9, h9⟩ := u_known (C := R_Exact) (T := F_Exact) (N := 11) (n := 11) hts fin_Exact (hts (.instantiable "StackHostModel$Exact" 11) (xt_in (xt_t9 (List.mem_of_getElem? (i := 99) (by decide +kernel))) (by decide +kernel)))
  refine ⟨(fun k => match k with | 0 => c0 | 1 => c1 | 2 => c2 | 3 => c3 | 4 => c4 | 5 => c5 | 6 => c6 | 7 => c7 | 8 => c8 | 9 => c9 | _ => 0, fun k => match k with | 0 => i0 | 1 => i1 | 2 => i2 | 3 => i3 | 4 => i4 | 5 => i5 | 6 => i6 | 7 => i7 | 8 => i8 | 9 => i9 | _ => fun _ => 0), fun k q hq => ?_, fun k q hq => by simp at hq⟩
  have hk : k < 10 := (List.getElem?_eq_some_iff.mp hq).1
  have hk2 : k = 0 ∨ k = 1 ∨ k = 2 ∨ k = 3 ∨ k = 4 ∨ k = 5 ∨ k = 6 ∨ k = 7 ∨ k = 8 ∨ k = 9 := by omega
  rcases hk2 with rfl | rfl | rfl | rfl | rfl | rfl | rfl | rfl | rfl | rfl
  · obtain rfl := Option.some.inj hq; exact h0
  · obtain rfl := Option.some.inj hq; exact h1
  · obtain rfl := Option.some.inj hq; exact h2
  · obtain rfl := Option.some.inj hq; exact h3
  · obtain rfl := Option.some.inj hq; exact h4
  · obtain rfl := Option.some.inj hq; exact h5
  · obtain rfl := Option.some.inj hq; exact h6
  · obtain rfl := Option.some.inj hq; exact h7
  · obtain rfl := Option.some.inj hq; exact h8
  · obtain rfl := Option.some.inj hq; exact h9
