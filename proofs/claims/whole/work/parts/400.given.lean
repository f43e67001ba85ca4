-- what the Statement gives of the start
theorem xt_strIn : ∀ q ∈ xt_strs, (Cond.stringRef q.1 q.2.1 q.2.2) ∈ lw_tbl := by
  show ∀ q ∈ [("StackHost", 65, "the tape is full"), ("StackHost", 88, "the tape has not so many bytes"), ("StackHost", 115, "there are as many modules as can be"), ("StackHost", 119, "a fault has no such number"), ("StackHost", 157, "a module has nothing of that number"), ("StackHost", 159, "there is no such module"), ("StackHost", 164, "there is no such body"), ("StackHost", 198, "a function is under way"), ("StackHost", 214, "there is no such instance"), ("StackHost", 238, "an export has nothing of that number"), ("StackHost", 240, "there is no such export"), ("StackHost", 245, "there are as many arguments as can be"), ("StackHost", 251, "that export is no function"), ("StackHost", 253, "the function has not as many parameters as there are arguments"), ("StackHost", 260, "there is no such fuel"), ("StackHost", 262, "nothing is under way"), ("StackHost", 281, "a trap has no such number"), ("StackHost", 302, "there is no such byte"), ("StackHost", 308, "there is no such variable"), ("StackHost", 325, "there is no such element"), ("StackHost", 341, "there is no such number in OUT"), ("StackHost$StackModule", 79, "the module has a fault")], _
  exact List.forall_mem_cons.mpr ⟨(xt_t2 (List.mem_of_getElem? (i := 195) (by decide +kernel))), List.forall_mem_cons.mpr ⟨(xt_t3 (List.mem_of_getElem? (i := 20) (by decide +kernel))), List.forall_mem_cons.mpr ⟨(xt_t3 (List.mem_of_getElem? (i := 38) (by decide +kernel))), List.forall_mem_cons.mpr ⟨(xt_t6 (List.mem_of_getElem? (i := 73) (by decide +kernel))), List.forall_mem_cons.mpr ⟨(xt_t6 (List.mem_of_getElem? (i := 90) (by decide +kernel))), List.forall_mem_cons.mpr ⟨(xt_t6 (List.mem_of_getElem? (i := 88) (by decide +kernel))), List.forall_mem_cons.mpr ⟨(xt_t6 (List.mem_of_getElem? (i := 98) (by decide +kernel))), List.forall_mem_cons.mpr ⟨(xt_t6 (List.mem_of_getElem? (i := 111) (by decide +kernel))), List.forall_mem_cons.mpr ⟨(xt_t7 (List.mem_of_getElem? (i := 131) (by decide +kernel))), List.forall_mem_cons.mpr ⟨(xt_t7 (List.mem_of_getElem? (i := 161) (by decide +kernel))), List.forall_mem_cons.mpr ⟨(xt_t7 (List.mem_of_getElem? (i := 157) (by decide +kernel))), List.forall_mem_cons.mpr ⟨(xt_t7 (List.mem_of_getElem? (i := 169) (by decide +kernel))), List.forall_mem_cons.mpr ⟨(xt_t7 (List.mem_of_getElem? (i := 178) (by decide +kernel))), List.forall_mem_cons.mpr ⟨(xt_t7 (List.mem_of_getElem? (i := 179) (by decide +kernel))), List.forall_mem_cons.mpr ⟨(xt_t7 (List.mem_of_getElem? (i := 201) (by decide +kernel))), List.forall_mem_cons.mpr ⟨(xt_t7 (List.mem_of_getElem? (i := 202) (by decide +kernel))), List.forall_mem_cons.mpr ⟨(xt_t9 (List.mem_of_getElem? (i := 30) (by decide +kernel))), List.forall_mem_cons.mpr ⟨(xt_t9 (List.mem_of_getElem? (i := 50) (by decide +kernel))), List.forall_mem_cons.mpr ⟨(xt_t9 (List.mem_of_getElem? (i := 67) (by decide +kernel))), List.forall_mem_cons.mpr ⟨(xt_t9 (List.mem_of_getElem? (i := 76) (by decide +kernel))), List.forall_mem_cons.mpr ⟨(xt_t9 (List.mem_of_getElem? (i := 87) (by decide +kernel))), List.forall_mem_cons.mpr ⟨(xt_t3 (List.mem_of_getElem? (i := 178) (by decide +kernel))), fun _ h => absurd h List.not_mem_nil⟩⟩⟩⟩⟩⟩⟩⟩⟩⟩⟩⟩⟩⟩⟩⟩⟩⟩⟩⟩⟩⟩
theorem ge_sg0 : ∀ j, j < 40 → (flatC narrow_1_1)[229 + j]? = some (Cond.eq (Term.elem (Term.static "StackHost$Checker" "SIGNATURES" "[I") (Term.int (Int32.ofNat (j + 0)))) (Term.int (xb_cSIG.getD (j + 0) 0))) := by decide +kernel
theorem ge_sg1 : ∀ j, j < 40 → (flatC narrow_1_1)[269 + j]? = some (Cond.eq (Term.elem (Term.static "StackHost$Checker" "SIGNATURES" "[I") (Term.int (Int32.ofNat (j + 40)))) (Term.int (xb_cSIG.getD (j + 40) 0))) := by decide +kernel
theorem ge_sg2 : ∀ j, j < 40 → (flatC narrow_1_1)[309 + j]? = some (Cond.eq (Term.elem (Term.static "StackHost$Checker" "SIGNATURES" "[I") (Term.int (Int32.ofNat (j + 80)))) (Term.int (xb_cSIG.getD (j + 80) 0))) := by decide +kernel
theorem ge_mt0 : ∀ j, j < 22 → (flatC narrow_1_1)[378 + j]? = some (Cond.eq (Term.elem (Term.static "StackHost" "MEMORY_TYPES" "[I") (Term.int (Int32.ofNat (j + 0)))) (Term.int (xb_cMT.getD (j + 0) 0))) := by decide +kernel
theorem ge_mt1 : ∀ j, j < 1 → (flatC narrow_1_2)[0 + j]? = some (Cond.eq (Term.elem (Term.static "StackHost" "MEMORY_TYPES" "[I") (Term.int (Int32.ofNat (j + 22)))) (Term.int (xb_cMT.getD (j + 22) 0))) := by decide +kernel
theorem ge_mb0 : ∀ j, j < 23 → (flatC narrow_1_1)[352 + j]? = some (Cond.eq (Term.elem (Term.static "StackHost" "MEMORY_BYTES" "[I") (Term.int (Int32.ofNat (j + 0)))) (Term.int (xb_cMB.getD (j + 0) 0))) := by decide +kernel
theorem ge_hx0 : ∀ j, j < 4 → (flatC narrow_1_2)[11 + j]? = some (Cond.eq (Term.elem (Term.static "StackHost" "HOST_EXPORTS" "[B") (Term.int (Int32.ofNat (j + 0)))) (Term.int (xb_cHX.getD (j + 0) 0))) := by decide +kernel
theorem ge_hn0 : ∀ j, j < 4 → (flatC narrow_1_2)[4 + j]? = some (Cond.eq (Term.elem (Term.static "StackHost" "HOST_NAME" "[B") (Term.int (Int32.ofNat (j + 0)))) (Term.int (xb_cHN.getD (j + 0) 0))) := by decide +kernel
set_option maxHeartbeats 4000000 in
set_option maxRecDepth 100000 in
theorem xt_given {s : State} {b : Nat} (hts : ∀ w ∈ lw_tbl, w.before #[Value.ref b] s = true) (hgv : (Jvm.Cond.and given_1 narrow_1).before #[Value.ref b] s = true) : ∃ σ : Nat, xb_B (lcA s) σ s s.heap := by
  have hg := flat_of_before _ hgv
  have hg1 : ∀ c ∈ flatC narrow_1_1, c.before #[Value.ref b] s = true := fun c hc => hg c (List.mem_append_right _ (List.mem_append_left _ (List.mem_append_left _ hc)))
  have hg2 : ∀ c ∈ flatC narrow_1_2, c.before #[Value.ref b] s = true := fun c hc => hg c (List.mem_append_right _ (List.mem_append_left _ (List.mem_append_right _ hc)))
  have hA0 : ∀ a : Nat, a < s.heap.size → ¬ lcA s a := fun a h h2 => Nat.not_le.mpr h h2
  have he_sg : ∀ j : Nat, j < 120 → (Term.elem (Term.static "StackHost$Checker" "SIGNATURES" "[I") (.int (Int32.ofNat j))).eval #[Value.ref b] s none [] s = some (.int (xb_cSIG.getD j 0)) := by
    intro j hj
    by_cases h0 : j < 40
    · exact va_eqt (hg1 _ (List.mem_of_getElem? (ge_sg0 j (by omega))))
    by_cases h1 : j < 80
    · obtain ⟨i, hi⟩ : ∃ i, j = i + 40 := ⟨j - 40, by omega⟩
      subst hi
      exact va_eqt (hg1 _ (List.mem_of_getElem? (ge_sg1 i (by omega))))
    obtain ⟨i, hi⟩ : ∃ i, j = i + 80 := ⟨j - 80, by omega⟩
    subst hi
    exact va_eqt (hg1 _ (List.mem_of_getElem? (ge_sg2 i (by omega))))
  obtain ⟨t_sg, ht_sg, hT_sg⟩ := va_Tof (tm := (Term.static "StackHost$Checker" "SIGNATURES" "[I")) (ty := .int) (N := 120) (f := fun j => .int (xb_cSIG.getD j 0)) (by decide) (hg1 _ (List.mem_of_getElem? (i := 227) (by decide +kernel))) (va_eqt (hg1 _ (List.mem_of_getElem? (i := 228) (by decide +kernel)))) he_sg hA0
  have hZ_sg := va_Zref (hts (.laysStatic "StackHost$Checker" "SIGNATURES" "[I") (xt_t5 (List.mem_of_getElem? (i := 217) (by decide +kernel)))) (hts (.initialized "StackHost$Checker") (xt_t1 (List.mem_of_getElem? (i := 3) (by decide +kernel)))) ht_sg hA0
  have he_mt : ∀ j : Nat, j < 23 → (Term.elem (Term.static "StackHost" "MEMORY_TYPES" "[I") (.int (Int32.ofNat j))).eval #[Value.ref b] s none [] s = some (.int (xb_cMT.getD j 0)) := by
    intro j hj
    by_cases h0 : j < 22
    · exact va_eqt (hg1 _ (List.mem_of_getElem? (ge_mt0 j (by omega))))
    obtain ⟨i, hi⟩ : ∃ i, j = i + 22 := ⟨j - 22, by omega⟩
    subst hi
    exact va_eqt (hg2 _ (List.mem_of_getElem? (ge_mt1 i (by omega))))
  obtain ⟨t_mt, ht_mt, hT_mt⟩ := va_Tof (tm := (Term.static "StackHost" "MEMORY_TYPES" "[I")) (ty := .int) (N := 23) (f := fun j => .int (xb_cMT.getD j 0)) (by decide) (hg1 _ (List.mem_of_getElem? (i := 376) (by decide +kernel))) (va_eqt (hg1 _ (List.mem_of_getElem? (i := 377) (by decide +kernel)))) he_mt hA0
  have hZ_mt := va_Zref (hts (.laysStatic "StackHost" "MEMORY_TYPES" "[I") (xt_t5 (List.mem_of_getElem? (i := 238) (by decide +kernel)))) (hts (.initialized "StackHost") (xt_t1 (List.mem_of_getElem? (i := 1) (by decide +kernel)))) ht_mt hA0
  have he_mb : ∀ j : Nat, j < 23 → (Term.elem (Term.static "StackHost" "MEMORY_BYTES" "[I") (.int (Int32.ofNat j))).eval #[Value.ref b] s none [] s = some (.int (xb_cMB.getD j 0)) := by
    intro j hj
    exact va_eqt (hg1 _ (List.mem_of_getElem? (ge_mb0 j (by omega))))
  obtain ⟨t_mb, ht_mb, hT_mb⟩ := va_Tof (tm := (Term.static "StackHost" "MEMORY_BYTES" "[I")) (ty := .int) (N := 23) (f := fun j => .int (xb_cMB.getD j 0)) (by decide) (hg1 _ (List.mem_of_getElem? (i := 350) (by decide +kernel))) (va_eqt (hg1 _ (List.mem_of_getElem? (i := 351) (by decide +kernel)))) he_mb hA0
  have hZ_mb := va_Zref (hts (.laysStatic "StackHost" "MEMORY_BYTES" "[I") (xt_t5 (List.mem_of_getElem? (i := 236) (by decide +kernel)))) (hts (.initialized "StackHost") (xt_t1 (List.mem_of_getElem? (i := 1) (by decide +kernel)))) ht_mb hA0
  have he_hx : ∀ j : Nat, j < 4 → (Term.elem (Term.static "StackHost" "HOST_EXPORTS" "[B") (.int (Int32.ofNat j))).eval #[Value.ref b] s none [] s = some (.int (xb_cHX.getD j 0)) := by
    intro j hj
    exact va_eqt (hg2 _ (List.mem_of_getElem? (ge_hx0 j (by omega))))
  obtain ⟨t_hx, ht_hx, hT_hx⟩ := va_Tof (tm := (Term.static "StackHost" "HOST_EXPORTS" "[B")) (ty := .byte) (N := 4) (f := fun j => .int (xb_cHX.getD j 0)) (by decide) (hg2 _ (List.mem_of_getElem? (i := 9) (by decide +kernel))) (va_eqt (hg2 _ (List.mem_of_getElem? (i := 10) (by decide +kernel)))) he_hx hA0
  have hZ_hx := va_Zref (hts (.laysStatic "StackHost" "HOST_EXPORTS" "[B") (xt_t6 (List.mem_of_getElem? (i := 130) (by decide +kernel)))) (hts (.initialized "StackHost") (xt_t1 (List.mem_of_getElem? (i := 1) (by decide +kernel)))) ht_hx hA0
  have he_hn : ∀ j : Nat, j < 4 → (Term.elem (Term.static "StackHost" "HOST_NAME" "[B") (.int (Int32.ofNat j))).eval #[Value.ref b] s none [] s = some (.int (xb_cHN.getD j 0)) := by
    intro j hj
    exact va_eqt (hg2 _ (List.mem_of_getElem? (ge_hn0 j (by omega))))
  obtain ⟨t_hn, ht_hn, hT_hn⟩ := va_Tof (tm := (Term.static "StackHost" "HOST_NAME" "[B")) (ty := .byte) (N := 4) (f := fun j => .int (xb_cHN.getD j 0)) (by decide) (hg2 _ (List.mem_of_getElem? (i := 2) (by decide +kernel))) (va_eqt (hg2 _ (List.mem_of_getElem? (i := 3) (by decide +kernel)))) he_hn hA0
  have hZ_hn := va_Zref (hts (.laysStatic "StackHost" "HOST_NAME" "[B") (xt_t6 (List.mem_of_getElem? (i := 123) (by decide +kernel)))) (hts (.initialized "StackHost") (xt_t1 (List.mem_of_getElem? (i := 1) (by decide +kernel)))) ht_hn hA0
  refine ⟨t_hn, ⟨xt_G.of hts, fun q hq => xt_strOf (hts _ (xt_strIn q hq)), ⟨?_, ?_⟩, ?_, ?_⟩, ⟨t_sg, hZ_sg, hT_sg⟩, ⟨t_mt, hZ_mt, hT_mt⟩, ⟨t_mb, hZ_mb, hT_mb⟩, ⟨t_hx, hZ_hx, hT_hx⟩, hZ_hn, hT_hn⟩
  · exact xt_z.of (hts (.laysStatic "java/lang/Throwable" "UNASSIGNED_STACK" "[Ljava/lang/StackTraceElement;") (xt_t2 (List.mem_of_getElem? (i := 180) (by decide +kernel)))) (hg1 _ (List.mem_of_getElem? (i := 2) (by decide +kernel))) hA0
  · exact xt_z.of (hts (.laysStatic "java/lang/Throwable" "SUPPRESSED_SENTINEL" "Ljava/util/List;") (xt_t2 (List.mem_of_getElem? (i := 182) (by decide +kernel)))) (hg1 _ (List.mem_of_getElem? (i := 3) (by decide +kernel))) hA0
  · show ∀ q ∈ [("java/lang/IllegalArgumentException", "java/lang/IndexOutOfBoundsException"), ("java/lang/IllegalStateException", "java/lang/IllegalArgumentException"), ("java/lang/IllegalStateException", "java/lang/IndexOutOfBoundsException")], _
    exact List.forall_mem_cons.mpr ⟨va_Nc.of (hg2 _ (List.mem_of_getElem? (i := 61) (by decide +kernel))), List.forall_mem_cons.mpr ⟨va_Nc.of (hg2 _ (List.mem_of_getElem? (i := 42) (by decide +kernel))), List.forall_mem_cons.mpr ⟨va_Nc.of (hg2 _ (List.mem_of_getElem? (i := 60) (by decide +kernel))), fun _ h => absurd h List.not_mem_nil⟩⟩⟩
  · have hel : ∀ j : Nat, j < 8 → (Term.elem (Term.static "StackHost" "MAGIC" "[B") (.int (Int32.ofNat j))).eval #[Value.ref b] s none [] s = some (.int (xt_mg j)) := by
      intro j hj
      have hj2 : j = 0 ∨ j = 1 ∨ j = 2 ∨ j = 3 ∨ j = 4 ∨ j = 5 ∨ j = 6 ∨ j = 7 := by omega
      rcases hj2 with rfl | rfl | rfl | rfl | rfl | rfl | rfl | rfl
      · exact va_eqt (hg1 (Cond.eq (.elem (Term.static "StackHost" "MAGIC" "[B") (.int 0)) (.int 0)) (List.mem_of_getElem? (i := 7) (by decide +kernel)))
      · exact va_eqt (hg1 (Cond.eq (.elem (Term.static "StackHost" "MAGIC" "[B") (.int 1)) (.int 97)) (List.mem_of_getElem? (i := 8) (by decide +kernel)))
      · exact va_eqt (hg1 (Cond.eq (.elem (Term.static "StackHost" "MAGIC" "[B") (.int 2)) (.int 115)) (List.mem_of_getElem? (i := 9) (by decide +kernel)))
      · exact va_eqt (hg1 (Cond.eq (.elem (Term.static "StackHost" "MAGIC" "[B") (.int 3)) (.int 109)) (List.mem_of_getElem? (i := 10) (by decide +kernel)))
      · exact va_eqt (hg1 (Cond.eq (.elem (Term.static "StackHost" "MAGIC" "[B") (.int 4)) (.int 1)) (List.mem_of_getElem? (i := 11) (by decide +kernel)))
      · exact va_eqt (hg1 (Cond.eq (.elem (Term.static "StackHost" "MAGIC" "[B") (.int 5)) (.int 0)) (List.mem_of_getElem? (i := 12) (by decide +kernel)))
      · exact va_eqt (hg1 (Cond.eq (.elem (Term.static "StackHost" "MAGIC" "[B") (.int 6)) (.int 0)) (List.mem_of_getElem? (i := 13) (by decide +kernel)))
      · exact va_eqt (hg1 (Cond.eq (.elem (Term.static "StackHost" "MAGIC" "[B") (.int 7)) (.int 0)) (List.mem_of_getElem? (i := 14) (by decide +kernel)))
    obtain ⟨t, ht, hT⟩ := va_Tof (tm := (Term.static "StackHost" "MAGIC" "[B")) (ty := .byte) (N := 8) (f := fun j => .int (xt_mg j)) (by decide) (hg1 _ (List.mem_of_getElem? (i := 5) (by decide +kernel))) (va_eqt (hg1 _ (List.mem_of_getElem? (i := 6) (by decide +kernel)))) hel hA0
    exact ⟨t, va_Zref (hts (.laysStatic "StackHost" "MAGIC" "[B") (xt_t3 (List.mem_of_getElem? (i := 172) (by decide +kernel)))) (hts (.initialized "StackHost") (xt_t1 (List.mem_of_getElem? (i := 1) (by decide +kernel)))) ht hA0, hT⟩
set_option maxHeartbeats 4000000 in
/-- the classes, as the tables have them -/
theorem xt_classes {s : State} {args : Array Value} (hts : ∀ w ∈ xt_tbl, w.before args s = true) : ∃ D : va_G, va_K D xcm [] s := by
  obtain ⟨c0, i0, h0⟩ := u_known (C := R_H) (T := F_H) (N := 11) (n := 11) hts fin_H (hts (.instantiable "StackHost" 11) (xt_in (xt_t1 (List.mem_of_getElem? (i := 35) (by decide +kernel))) (by decide +kernel)))
  obtain ⟨c1, i1, h1⟩ := u_known (C := R_Row) (T := F_Row) (N := 3) (n := 3) hts fin_Row (hts (.instantiable "StackHost$Row" 3) (xt_in (xt_t1 (List.mem_of_getElem? (i := 139) (by decide +kernel))) (by decide +kernel)))
  obtain ⟨c2, i2, h2⟩ := u_known (C := R_StackModule) (T := F_StackModule) (N := 19) (n := 19) hts fin_StackModule (hts (.instantiable "StackHost$StackModule" 19) (xt_in (xt_t3 (List.mem_of_getElem? (i := 39) (by decide +kernel))) (by decide +kernel)))
  obtain ⟨c3, i3, h3⟩ := u_known (C := R_Reader) (T := F_Reader) (N := 6) (n := 6) hts fin_Reader (hts (.instantiable "StackHost$Reader" 6) (xt_in (xt_t1 (List.mem_of_getElem? (i := 45) (by decide +kernel))) (by decide +kernel)))
  obtain ⟨c4, i4, h4⟩ := u_known (C := R_Checker) (T := F_Checker) (N := 17) (n := 17) hts fin_Checker (hts (.instantiable "StackHost$Checker" 17) (xt_in (xt_t1 (List.mem_of_getElem? (i := 72) (by decide +kernel))) (by decide +kernel)))
  obtain ⟨c5, i5, h5⟩ := u_known (C := R_Format) (T := F_Format) (N := 5) (n := 5) hts fin_Format (hts (.instantiable "StackHost$Format" 5) (xt_in (xt_t1 (List.mem_of_getElem? (i := 237) (by decide +kernel))) (by decide +kernel)))
  obtain ⟨c6, i6, h6⟩ := u_known (C := R_World) (T := F_World) (N := 16) (n := 16) hts fin_World (hts (.instantiable "StackHost$World" 16) (xt_in (xt_t1 (List.mem_of_getElem? (i := 131) (by decide +kernel))) (by decide +kernel)))
  obtain ⟨c7, i7, h7⟩ := u_known (C := R_Machine) (T := F_Machine) (N := 18) (n := 18) hts fin_Machine (hts (.instantiable "StackHost$Machine" 18) (xt_in (xt_t1 (List.mem_of_getElem? (i := 231) (by decide +kernel))) (by decide +kernel)))
  obtain ⟨c8, i8, h8⟩ := u_known (C := R_M) (T := F_M) (N := 97) (n := 97) hts fin_M (hts (.instantiable "StackHostModel" 97) (xt_in (xt_t9 (List.mem_of_getElem? (i := 89) (by decide +kernel))) (by decide +kernel)))
  obtain ⟨c9, i9, h9⟩ := u_known (C := R_Exact) (T := F_Exact) (N := 11) (n := 11) hts fin_Exact (hts (.instantiable "StackHostModel$Exact" 11) (xt_in (xt_t9 (List.mem_of_getElem? (i := 99) (by decide +kernel))) (by decide +kernel)))
  obtain ⟨c10, i10, h10⟩ := u_known (C := R_Instance) (T := F_Instance) (N := 8) (n := 8) hts fin_Instance (hts (.instantiable "StackHost$Instance" 8) (xt_in (xt_t6 (List.mem_of_getElem? (i := 234) (by decide +kernel))) (by decide +kernel)))
  obtain ⟨c11, i11, h11⟩ := u_known (C := R_Table) (T := F_Table) (N := 3) (n := 3) hts fin_Table (hts (.instantiable "StackHost$Table" 3) (xt_in (xt_t7 (List.mem_of_getElem? (i := 45) (by decide +kernel))) (by decide +kernel)))
  obtain ⟨c12, i12, h12⟩ := u_known (C := R_Memory) (T := F_Memory) (N := 4) (n := 4) hts fin_Memory (hts (.instantiable "StackHost$Memory" 4) (xt_in (xt_t7 (List.mem_of_getElem? (i := 68) (by decide +kernel))) (by decide +kernel)))
  refine ⟨(fun k => match k with | 0 => c0 | 1 => c1 | 2 => c2 | 3 => c3 | 4 => c4 | 5 => c5 | 6 => c6 | 7 => c7 | 8 => c8 | 9 => c9 | 10 => c10 | 11 => c11 | 12 => c12 | _ => 0, fun k => match k with | 0 => i0 | 1 => i1 | 2 => i2 | 3 => i3 | 4 => i4 | 5 => i5 | 6 => i6 | 7 => i7 | 8 => i8 | 9 => i9 | 10 => i10 | 11 => i11 | 12 => i12 | _ => fun _ => 0), fun k q hq => ?_, fun k q hq => by simp at hq⟩
  have hk : k < 13 := (List.getElem?_eq_some_iff.mp hq).1
  have hk2 : k = 0 ∨ k = 1 ∨ k = 2 ∨ k = 3 ∨ k = 4 ∨ k = 5 ∨ k = 6 ∨ k = 7 ∨ k = 8 ∨ k = 9 ∨ k = 10 ∨ k = 11 ∨ k = 12 := by omega
  rcases hk2 with rfl | rfl | rfl | rfl | rfl | rfl | rfl | rfl | rfl | rfl | rfl | rfl | rfl
  · obtain rfl := Option.some.inj hq; exact h0
  · obtain rfl := Option.some.inj hq; exact h1
  · obtain rfl := Option.some.inj hq; exact h2
  · obtain rfl := Option.some.inj hq; exact h3
  · obtain rfl := Option.some.inj hq; exact h4
  · obtain rfl := Option.some.inj hq; exact h5
  · obtain rfl := Option.some.inj hq; exact h6
  · obtain rfl := Option.some.inj hq; exact h7
  · obtain rfl := Option.some.inj hq; exact h8
  · obtain rfl := Option.some.inj hq; exact h9
  · obtain rfl := Option.some.inj hq; exact h10
  · obtain rfl := Option.some.inj hq; exact h11
  · obtain rfl := Option.some.inj hq; exact h12
