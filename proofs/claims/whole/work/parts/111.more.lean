-- what the printed methods use besides
theorem xb_bn {x : Int32} (h : x = 0 ∨ x = 1) : narrow .boolean (.int x) = .int x ∧ fits .boolean (.int x) = true := by
  rcases h with rfl | rfl <;> decide
theorem xb_pnO (C : String) (o : Option Nat) : narrow (.object C) (va_rf o) = va_rf o ∧ fits (.object C) (va_rf o) = true := by
  cases o <;> exact ⟨rfl, rfl⟩
theorem xb_pnA (t : FieldType) (o : Option Nat) : narrow (.array t) (va_rf o) = va_rf o ∧ fits (.array t) (va_rf o) = true := by
  cases o <;> exact ⟨rfl, rfl⟩
theorem xb_nc {A : Nat → Prop} {σ : Nat} {s : State} {H : Heap} (hB : xb_B A σ s H) (X Y : String) (h : (X, Y) ∈ xt_ncs) : va_Nc X Y s := hB.1.2.2.2.1 (X, Y) h
section XBM
variable {p : Program} {l : Launch} {e : Env} {R : Room} {s : State} {m : MethodId} {args : Array Value} {below : List Frame} {meth : Method} {c : Code} {H : Heap} {locs : List Loc} {cells slots : Nat} {Q : State → Prop} {pc : Nat} {ls : Array Slot} {rest : List Value}
theorem xb_some {o : Option Nat} {b : Nat} (h : o = some b) (k : W p l e R s m args below meth c H locs cells slots Q (F0 m pc ls (.ref b :: rest))) : W p l e R s m args below meth c H locs cells slots Q (F0 m pc ls (va_rf o :: rest)) := by
  subst h
  exact k
/-- caught by the third row; the first two cover the place, too, and don't take the object -/
theorem xb_catch3 {own name1 name2 name Xn : String} (hown : s.vm.findClass own = some m.cls) {st : List Value} {a : Addr} (y1 y2 x : ExceptionTableEntry) (t : List ExceptionTableEntry) (ht : c.exceptionTable.toList = y1 :: y2 :: x :: t) (h1 : covers y1 pc = true) (h10 : y1.catchType ≠ 0) (h2 : covers y2 pc = true) (h20 : y2.catchType ≠ 0) (hx : covers x pc = true) (h0 : x.catchType ≠ 0)
    (hlink1 : (Cond.classLink own y1.catchType name1).before args s = true) (hnc1 : va_Nc Xn name1 s) (hlink2 : (Cond.classLink own y2.catchType name2).before args s = true) (hnc2 : va_Nc Xn name2 s) (hlink : (Cond.classLink own x.catchType name).before args s = true) (hcast : (Cond.castable Xn name).before args s = true) (hex : xt_Ex Xn a s H)
    (kk : W p l e R s m args below meth c H locs cells slots Q (F0 m x.handlerPc ls [.ref a])) : xt_WT p l e R s m args below meth c H locs cells slots Q (F0 m pc ls st) a := by
  intro T hT X
  have hexT : xt_Ex Xn a s T.heap := by rw [hT]; exact hex
  obtain ⟨vm₁, X1, hgo1⟩ := xt_goMiss X hown (x := y1) (t := y2 :: x :: t) hlink1 (a := a) hexT hnc1 (g := F0 m pc ls st) rfl h1 h10
  obtain ⟨vm₂, X2, hgo2⟩ := xt_goMiss X1 hown (x := y2) (t := x :: t) hlink2 (a := a) hexT hnc2 (g := F0 m pc ls st) rfl h2 h20
  obtain ⟨vm', hW, hgo⟩ := xt_goHit X2 hown (x := x) (t := t) hlink (a := a) hexT hcast (g := F0 m pc ls st) rfl hx h0
  obtain ⟨t2, a1, b1⟩ := kk (T.setVm vm') hT (X.noted hW)
  exact ⟨t2, xt_caught X rfl (by rw [ht]; exact hgo1 _ _ (hgo2 _ _ hgo)) a1, b1⟩
end XBM
theorem dg_H : ∀ j, j < 11 → ((xb_ks 0)[j]?).map xb_df = some (defaultValue (t_H j)) := by decide +kernel
theorem dg_Row : ∀ j, j < 3 → ((xb_ks 1)[j]?).map xb_df = some (defaultValue (t_Row j)) := by decide +kernel
theorem dg_StackModule : ∀ j, j < 19 → ((xb_ks 2)[j]?).map xb_df = some (defaultValue (t_StackModule j)) := by decide +kernel
theorem dg_Reader : ∀ j, j < 6 → ((xb_ks 3)[j]?).map xb_df = some (defaultValue (t_Reader j)) := by decide +kernel
theorem dg_Checker : ∀ j, j < 17 → ((xb_ks 4)[j]?).map xb_df = some (defaultValue (t_Checker j)) := by decide +kernel
theorem dg_Format : ∀ j, j < 5 → ((xb_ks 5)[j]?).map xb_df = some (defaultValue (t_Format j)) := by decide +kernel
theorem dg_World : ∀ j, j < 16 → ((xb_ks 6)[j]?).map xb_df = some (defaultValue (t_World j)) := by decide +kernel
theorem dg_Machine : ∀ j, j < 18 → ((xb_ks 7)[j]?).map xb_df = some (defaultValue (t_Machine j)) := by decide +kernel
theorem dg_M : ∀ j, j < 97 → ((xb_ks 8)[j]?).map xb_df = some (defaultValue (t_M j)) := by decide +kernel
theorem dg_Exact : ∀ j, j < 11 → ((xb_ks 9)[j]?).map xb_df = some (defaultValue (t_Exact j)) := by decide +kernel
theorem dg_Instance : ∀ j, j < 8 → ((xb_ks 10)[j]?).map xb_df = some (defaultValue (t_Instance j)) := by decide +kernel
theorem dg_Table : ∀ j, j < 3 → ((xb_ks 11)[j]?).map xb_df = some (defaultValue (t_Table j)) := by decide +kernel
theorem dg_Memory : ∀ j, j < 4 → ((xb_ks 12)[j]?).map xb_df = some (defaultValue (t_Memory j)) := by decide +kernel
