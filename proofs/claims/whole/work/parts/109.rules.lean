-- the instructions over the heap by addresses
section XBA
variable {p : Program} {l : Launch} {e : Env} {R : Room} {s : State} {m : MethodId} {args : Array Value} {below : List Frame} {meth : Method} {c : Code} {H H0 : Heap} {locs : List Loc} {cells slots : Nat} {Q : State → Prop} {pc : Nat} {ls : Array Slot} {rest : List Value} {cc : ByteArray}
variable {D : va_G} {A : Nat → Prop} {h : xb_H} {a : Nat}
theorem xb_R.obj {ci : Nat} (hR : xb_R D A h s H) (hk : xb_k h a = ci + 1) (hci : ci < 99) : ∃ (ws : va_W) (tys : List (ClassId × FieldType)) (i : Nat), va_P D xcm ws H ∧ va_D A ws ∧ va_K D xcm tys s ∧ (∀ b, xb_in h tys ws b) ∧ ws[i]? = some (a, .inr (ci, xb_fs h a 0 (xb_ks ci))) := by
  obtain ⟨ws, tys, hP, hD, hK, hin⟩ := hR
  obtain ⟨i, hi⟩ := (hin a).1 (by omega) (by omega)
  simp only [hk, Nat.add_sub_cancel] at hi
  exact ⟨ws, tys, i, hP, hD, hK, hin, hi⟩
theorem xb_R.arr {kd : Nat} (hR : xb_R D A h s H) (hk : xb_k h a = kd) (hkd : 100 ≤ kd) : ∃ (ws : va_W) (tys : List (ClassId × FieldType)) (i t : Nat) (cA : ClassId), va_P D xcm ws H ∧ va_D A ws ∧ va_K D xcm tys s ∧ (∀ b, xb_in h tys ws b) ∧ ws[i]? = some (a, .inl (cA, xb_n h a, xb_el h a kd)) ∧ tys[t]? = some (cA, xb_ty kd) ∧ xb_fit kd (xb_i h a) := by
  obtain ⟨ws, tys, hP, hD, hK, hin⟩ := hR
  obtain ⟨i, t, cA, hi, ht, hf⟩ := (hin a).2 (by omega)
  rw [hk] at hi ht hf
  exact ⟨ws, tys, i, t, cA, hP, hD, hK, hin, hi, ht, hf⟩
theorem xb_recv {ci : Nat} {q : vw_C} (hR : xb_R D A h s H) (hc : xcm[ci]? = some q) (hk : xb_k h a = ci + 1) (hci : ci < 99) : ∃ cell : Cell, H[a]? = some cell ∧ cell.vm.isStatics = false ∧ s.vm.findClass q.1 = some cell.cls := by
  obtain ⟨ws, tys, i, hP, hD, hK, hin, hi⟩ := hR.obj hk hci
  exact va_recv hK hP hc hi
theorem xb_get (hexec : p.tables.exec = Jvm.exec) (hb : c.code = cc) {own ref C : String} {T : u_T} {N index : Nat} {Ts : List Cond} (ci k d : Nat) (hts : ∀ w ∈ Ts, w.before args s = true) (hfin : ∀ w ∈ u_ws C T N, w ∈ Ts) (hown : s.vm.findClass own = some m.cls) (hR : xb_R D A h s H) (hk : xb_k h a = ci + 1) (hci : ci < 99) (hc : xcm[ci]? = some (C, T, N)) (hkN : k < N) (hd : (xb_ks ci)[k]? = some d) (hlink : (Cond.fieldLink own index ref (T k).2.1 (T k).2.2.1).before args s = true) (hsame : ∀ x, s.fieldFound? (T k).1 (T k).2.1 (T k).2.2.1 = some x → s.fieldFound? ref (T k).2.1 (T k).2.2.1 = some x) (hdg : decode cc pc = .ok (.getfield index, 3))
    (kk : W p l e R s m args below meth c H locs cells slots Q (F0 m (pc + 3) ls (xb_val h a k d :: rest))) : W p l e R s m args below meth c H locs cells slots Q (F0 m pc ls (.ref a :: rest)) := by
  obtain ⟨ws, tys, i, hP, hD, hK, hin, hi⟩ := hR.obj hk hci
  exact va_get hexec hb hts hfin hown hK hP i hi hc k hkN hlink hsame (by have h1 := xb_fs_at h a (xb_ks ci) 0 k d hd; rw [Nat.zero_add] at h1; exact h1) hdg kk
theorem xb_getN (hexec : p.tables.exec = Jvm.exec) (hb : c.code = cc) {own ref C : String} {host : String} {T : u_T} {N index : Nat} {Ts : List Cond} (ci k d : Nat) (hts : ∀ w ∈ Ts, w.before args s = true) (hfin : ∀ w ∈ u_ws C T N, w ∈ Ts) (hown : s.vm.findClass own = some m.cls) (hR : xb_R D A h s H) (hk : xb_k h a = ci + 1) (hci : ci < 99) (hc : xcm[ci]? = some (C, T, N)) (hkN : k < N) (hd : (xb_ks ci)[k]? = some d) (hlink : (Cond.fieldLinkNest own index ref (T k).2.1 (T k).2.2.1 host).before args s = true) (hsame : ∀ x, s.fieldFound? (T k).1 (T k).2.1 (T k).2.2.1 = some x → s.fieldFound? ref (T k).2.1 (T k).2.2.1 = some x) (hdg : decode cc pc = .ok (.getfield index, 3))
    (kk : W p l e R s m args below meth c H locs cells slots Q (F0 m (pc + 3) ls (xb_val h a k d :: rest))) : W p l e R s m args below meth c H locs cells slots Q (F0 m pc ls (.ref a :: rest)) := by
  obtain ⟨ws, tys, i, hP, hD, hK, hin, hi⟩ := hR.obj hk hci
  exact va_getN hexec hb hts hfin hown hK hP i hi hc k hkN hlink hsame (by have h1 := xb_fs_at h a (xb_ks ci) 0 k d hd; rw [Nat.zero_add] at h1; exact h1) hdg kk
theorem xb_getI (hexec : p.tables.exec = Jvm.exec) (hb : c.code = cc) {own ref C : String} {T : u_T} {N index : Nat} {Ts : List Cond} (ci k : Nat) (hts : ∀ w ∈ Ts, w.before args s = true) (hfin : ∀ w ∈ u_ws C T N, w ∈ Ts) (hown : s.vm.findClass own = some m.cls) (hR : xb_R D A h s H) (hk : xb_k h a = ci + 1) (hci : ci < 99) (hc : xcm[ci]? = some (C, T, N)) (hkN : k < N) (hd : (xb_ks ci)[k]? = some 0) (hlink : (Cond.fieldLink own index ref (T k).2.1 (T k).2.2.1).before args s = true) (hsame : ∀ x, s.fieldFound? (T k).1 (T k).2.1 (T k).2.2.1 = some x → s.fieldFound? ref (T k).2.1 (T k).2.2.1 = some x) (hdg : decode cc pc = .ok (.getfield index, 3))
    (kk : W p l e R s m args below meth c H locs cells slots Q (F0 m (pc + 3) ls (.int (xb_i h a k) :: rest))) : W p l e R s m args below meth c H locs cells slots Q (F0 m pc ls (.ref a :: rest)) := xb_get hexec hb ci k 0 hts hfin hown hR hk hci hc hkN hd hlink hsame hdg kk
theorem xb_getL (hexec : p.tables.exec = Jvm.exec) (hb : c.code = cc) {own ref C : String} {T : u_T} {N index : Nat} {Ts : List Cond} (ci k : Nat) (hts : ∀ w ∈ Ts, w.before args s = true) (hfin : ∀ w ∈ u_ws C T N, w ∈ Ts) (hown : s.vm.findClass own = some m.cls) (hR : xb_R D A h s H) (hk : xb_k h a = ci + 1) (hci : ci < 99) (hc : xcm[ci]? = some (C, T, N)) (hkN : k < N) (hd : (xb_ks ci)[k]? = some 1) (hlink : (Cond.fieldLink own index ref (T k).2.1 (T k).2.2.1).before args s = true) (hsame : ∀ x, s.fieldFound? (T k).1 (T k).2.1 (T k).2.2.1 = some x → s.fieldFound? ref (T k).2.1 (T k).2.2.1 = some x) (hdg : decode cc pc = .ok (.getfield index, 3))
    (kk : W p l e R s m args below meth c H locs cells slots Q (F0 m (pc + 3) ls (.long (xb_l h a k) :: rest))) : W p l e R s m args below meth c H locs cells slots Q (F0 m pc ls (.ref a :: rest)) := xb_get hexec hb ci k 1 hts hfin hown hR hk hci hc hkN hd hlink hsame hdg kk
theorem xb_getP (hexec : p.tables.exec = Jvm.exec) (hb : c.code = cc) {own ref C : String} {T : u_T} {N index : Nat} {Ts : List Cond} (ci k : Nat) (hts : ∀ w ∈ Ts, w.before args s = true) (hfin : ∀ w ∈ u_ws C T N, w ∈ Ts) (hown : s.vm.findClass own = some m.cls) (hR : xb_R D A h s H) (hk : xb_k h a = ci + 1) (hci : ci < 99) (hc : xcm[ci]? = some (C, T, N)) (hkN : k < N) (hd : (xb_ks ci)[k]? = some 2) (hlink : (Cond.fieldLink own index ref (T k).2.1 (T k).2.2.1).before args s = true) (hsame : ∀ x, s.fieldFound? (T k).1 (T k).2.1 (T k).2.2.1 = some x → s.fieldFound? ref (T k).2.1 (T k).2.2.1 = some x) (hdg : decode cc pc = .ok (.getfield index, 3))
    (kk : W p l e R s m args below meth c H locs cells slots Q (F0 m (pc + 3) ls (va_rf (xb_r h a k) :: rest))) : W p l e R s m args below meth c H locs cells slots Q (F0 m pc ls (.ref a :: rest)) := xb_get hexec hb ci k 2 hts hfin hown hR hk hci hc hkN hd hlink hsame hdg kk
theorem xb_getIN (hexec : p.tables.exec = Jvm.exec) (hb : c.code = cc) {own ref C : String} {host : String} {T : u_T} {N index : Nat} {Ts : List Cond} (ci k : Nat) (hts : ∀ w ∈ Ts, w.before args s = true) (hfin : ∀ w ∈ u_ws C T N, w ∈ Ts) (hown : s.vm.findClass own = some m.cls) (hR : xb_R D A h s H) (hk : xb_k h a = ci + 1) (hci : ci < 99) (hc : xcm[ci]? = some (C, T, N)) (hkN : k < N) (hd : (xb_ks ci)[k]? = some 0) (hlink : (Cond.fieldLinkNest own index ref (T k).2.1 (T k).2.2.1 host).before args s = true) (hsame : ∀ x, s.fieldFound? (T k).1 (T k).2.1 (T k).2.2.1 = some x → s.fieldFound? ref (T k).2.1 (T k).2.2.1 = some x) (hdg : decode cc pc = .ok (.getfield index, 3))
    (kk : W p l e R s m args below meth c H locs cells slots Q (F0 m (pc + 3) ls (.int (xb_i h a k) :: rest))) : W p l e R s m args below meth c H locs cells slots Q (F0 m pc ls (.ref a :: rest)) := xb_getN hexec hb ci k 0 hts hfin hown hR hk hci hc hkN hd hlink hsame hdg kk
theorem xb_getLN (hexec : p.tables.exec = Jvm.exec) (hb : c.code = cc) {own ref C : String} {host : String} {T : u_T} {N index : Nat} {Ts : List Cond} (ci k : Nat) (hts : ∀ w ∈ Ts, w.before args s = true) (hfin : ∀ w ∈ u_ws C T N, w ∈ Ts) (hown : s.vm.findClass own = some m.cls) (hR : xb_R D A h s H) (hk : xb_k h a = ci + 1) (hci : ci < 99) (hc : xcm[ci]? = some (C, T, N)) (hkN : k < N) (hd : (xb_ks ci)[k]? = some 1) (hlink : (Cond.fieldLinkNest own index ref (T k).2.1 (T k).2.2.1 host).before args s = true) (hsame : ∀ x, s.fieldFound? (T k).1 (T k).2.1 (T k).2.2.1 = some x → s.fieldFound? ref (T k).2.1 (T k).2.2.1 = some x) (hdg : decode cc pc = .ok (.getfield index, 3))
    (kk : W p l e R s m args below meth c H locs cells slots Q (F0 m (pc + 3) ls (.long (xb_l h a k) :: rest))) : W p l e R s m args below meth c H locs cells slots Q (F0 m pc ls (.ref a :: rest)) := xb_getN hexec hb ci k 1 hts hfin hown hR hk hci hc hkN hd hlink hsame hdg kk
theorem xb_getPN (hexec : p.tables.exec = Jvm.exec) (hb : c.code = cc) {own ref C : String} {host : String} {T : u_T} {N index : Nat} {Ts : List Cond} (ci k : Nat) (hts : ∀ w ∈ Ts, w.before args s = true) (hfin : ∀ w ∈ u_ws C T N, w ∈ Ts) (hown : s.vm.findClass own = some m.cls) (hR : xb_R D A h s H) (hk : xb_k h a = ci + 1) (hci : ci < 99) (hc : xcm[ci]? = some (C, T, N)) (hkN : k < N) (hd : (xb_ks ci)[k]? = some 2) (hlink : (Cond.fieldLinkNest own index ref (T k).2.1 (T k).2.2.1 host).before args s = true) (hsame : ∀ x, s.fieldFound? (T k).1 (T k).2.1 (T k).2.2.1 = some x → s.fieldFound? ref (T k).2.1 (T k).2.2.1 = some x) (hdg : decode cc pc = .ok (.getfield index, 3))
    (kk : W p l e R s m args below meth c H locs cells slots Q (F0 m (pc + 3) ls (va_rf (xb_r h a k) :: rest))) : W p l e R s m args below meth c H locs cells slots Q (F0 m pc ls (.ref a :: rest)) := xb_getN hexec hb ci k 2 hts hfin hown hR hk hci hc hkN hd hlink hsame hdg kk
theorem xb_putk {ci k d : Nat} {v : Value} {h' : xb_H} {ws : va_W} {tys : List (ClassId × FieldType)} {i : Nat} {H1 : Heap} (hk : xb_k h a = ci + 1) (hci : ci < 99) (hK : va_K D xcm tys s) (hin : ∀ b, xb_in h tys ws b) (hi : ws[i]? = some (a, .inr (ci, xb_fs h a 0 (xb_ks ci)))) (hd : (xb_ks ci)[k]? = some d)
    (hP1 : va_P D xcm (ws.set i (a, .inr (ci, (xb_fs h a 0 (xb_ks ci)).set k v))) H1) (hD1 : va_D A (ws.set i (a, .inr (ci, (xb_fs h a 0 (xb_ks ci)).set k v))))
    (ek : ∀ b, xb_k h' b = xb_k h b) (en : ∀ b, xb_n h' b = xb_n h b) (eo : ∀ b, b ≠ a → xb_i h' b = xb_i h b ∧ xb_l h' b = xb_l h b ∧ xb_r h' b = xb_r h b) (hv : xb_val h' a k d = v) (hs : ∀ m, m ≠ k → ∀ d, xb_val h' a m d = xb_val h a m d) : xb_R D A h' s H1 := by
  refine xb_R.set hK hin hi hP1 hD1 ek en eo ⟨fun _ _ => ⟨i, ?_⟩, fun q1 => ?_⟩
  · rw [ek, hk, Nat.add_sub_cancel, ← xb_fs_set (h := h) (h' := h') (v := v) (xb_ks ci) 0 k d hd (by rw [Nat.zero_add]; exact hv) (fun m hm d => hs m (by omega) d)]
    exact List.getElem?_set_self (List.getElem?_eq_some_iff.mp hi).1
  · rw [ek, hk] at q1
    omega
theorem xb_upI {a k : Nat} {x : Int32} : (∀ b, xb_k (xb_I h a k x) b = xb_k h b) ∧ (∀ b, xb_n (xb_I h a k x) b = xb_n h b) ∧ (∀ b, b ≠ a → xb_i (xb_I h a k x) b = xb_i h b ∧ xb_l (xb_I h a k x) b = xb_l h b ∧ xb_r (xb_I h a k x) b = xb_r h b) := by
  refine ⟨fun _ => rfl, fun _ => rfl, fun b hb => ?_⟩
  exact ⟨xb_up_n _ _ hb, rfl, rfl⟩
theorem xb_vaI {a k : Nat} {x : Int32} : xb_val (xb_I h a k x) a k 0 = .int x ∧ ∀ m, m ≠ k → ∀ d, xb_val (xb_I h a k x) a m d = xb_val h a m d := by
  have e : xb_i (xb_I h a k x) a = va_up (xb_i h a) k x := xb_up_s _ _ _
  refine ⟨?_, fun m hm d => ?_⟩
  · simp only [xb_val, e, xb_up_s]
  · have e2 : xb_i (xb_I h a k x) a m = xb_i h a m := by rw [e]; exact xb_up_n _ _ hm
    match d with
    | 0 => exact congrArg Value.int e2
    | 1 => rfl
    | d + 2 => rfl
theorem xb_putI (hexec : p.tables.exec = Jvm.exec) (hb : c.code = cc) {own ref C : String} {T : u_T} {N index : Nat} {Ts : List Cond} (ci k : Nat) (hts : ∀ w ∈ Ts, w.before args s = true) (hfin : ∀ w ∈ u_ws C T N, w ∈ Ts) (ty0 : Nat → FieldType) (hty : ∀ k, k < N → parseFieldDescriptor (T k).2.2.1 = some (ty0 k)) (hnm : ∀ a, a < N → ∀ b, b < N → a ≠ b → (T a).2.1 ≠ (T b).2.1) (hown : s.vm.findClass own = some m.cls) (hR : xb_R D A h s H) (hS : va_S A H0 H locs) (hk : xb_k h a = ci + 1) (hci : ci < 99) (hc : xcm[ci]? = some (C, T, N)) (hkN : k < N) (hd : (xb_ks ci)[k]? = some 0) (hlink : (Cond.fieldLink own index ref (T k).2.1 (T k).2.2.1).before args s = true) (hsame : ∀ x, s.fieldFound? (T k).1 (T k).2.1 (T k).2.2.1 = some x → s.fieldFound? ref (T k).2.1 (T k).2.2.1 = some x) (hfinal : (T k).2.2.2 = false) {ty : FieldType} {x : Int32} (hd2 : parseFieldDescriptor (T k).2.2.1 = some ty) (hn : narrow ty (.int x) = .int x) (hfit : fits ty (.int x) = true) (hdg : decode cc pc = .ok (.putfield index, 3))
    (kk : ∀ (H1 : Heap) (locs1 : List Loc), xb_R D A (xb_I h a k x) s H1 → va_S A H0 H1 locs1 → W p l e R s m args below meth c H1 locs1 cells slots Q (F0 m (pc + 3) ls rest)) : W p l e R s m args below meth c H locs cells slots Q (F0 m pc ls (.int x :: .ref a :: rest)) := by
  obtain ⟨ws, tys, i, hP, hD, hK, hin, hi⟩ := hR.obj hk hci
  refine va_put hexec hb hts hfin ty0 hty hnm hown hK hP hD hS i hi hc k hkN hlink hsame hfinal hd2 hn hfit (by rw [xb_fs_len]; exact (List.getElem?_eq_some_iff.mp hd).1) hdg (fun H1 locs1 hP1 hD1 hS1 => kk H1 locs1 ?_ hS1)
  exact xb_putk hk hci hK hin hi hd hP1 hD1 xb_upI.1 xb_upI.2.1 xb_upI.2.2 xb_vaI.1 xb_vaI.2
theorem xb_putIN (hexec : p.tables.exec = Jvm.exec) (hb : c.code = cc) {own ref C : String} {host : String} {T : u_T} {N index : Nat} {Ts : List Cond} (ci k : Nat) (hts : ∀ w ∈ Ts, w.before args s = true) (hfin : ∀ w ∈ u_ws C T N, w ∈ Ts) (ty0 : Nat → FieldType) (hty : ∀ k, k < N → parseFieldDescriptor (T k).2.2.1 = some (ty0 k)) (hnm : ∀ a, a < N → ∀ b, b < N → a ≠ b → (T a).2.1 ≠ (T b).2.1) (hown : s.vm.findClass own = some m.cls) (hR : xb_R D A h s H) (hS : va_S A H0 H locs) (hk : xb_k h a = ci + 1) (hci : ci < 99) (hc : xcm[ci]? = some (C, T, N)) (hkN : k < N) (hd : (xb_ks ci)[k]? = some 0) (hlink : (Cond.fieldLinkNest own index ref (T k).2.1 (T k).2.2.1 host).before args s = true) (hsame : ∀ x, s.fieldFound? (T k).1 (T k).2.1 (T k).2.2.1 = some x → s.fieldFound? ref (T k).2.1 (T k).2.2.1 = some x) (hfinal : (T k).2.2.2 = false) {ty : FieldType} {x : Int32} (hd2 : parseFieldDescriptor (T k).2.2.1 = some ty) (hn : narrow ty (.int x) = .int x) (hfit : fits ty (.int x) = true) (hdg : decode cc pc = .ok (.putfield index, 3))
    (kk : ∀ (H1 : Heap) (locs1 : List Loc), xb_R D A (xb_I h a k x) s H1 → va_S A H0 H1 locs1 → W p l e R s m args below meth c H1 locs1 cells slots Q (F0 m (pc + 3) ls rest)) : W p l e R s m args below meth c H locs cells slots Q (F0 m pc ls (.int x :: .ref a :: rest)) := by
  obtain ⟨ws, tys, i, hP, hD, hK, hin, hi⟩ := hR.obj hk hci
  refine va_putN hexec hb hts hfin ty0 hty hnm hown hK hP hD hS i hi hc k hkN hlink hsame hfinal hd2 hn hfit (by rw [xb_fs_len]; exact (List.getElem?_eq_some_iff.mp hd).1) hdg (fun H1 locs1 hP1 hD1 hS1 => kk H1 locs1 ?_ hS1)
  exact xb_putk hk hci hK hin hi hd hP1 hD1 xb_upI.1 xb_upI.2.1 xb_upI.2.2 xb_vaI.1 xb_vaI.2
theorem xb_putIF (hexec : p.tables.exec = Jvm.exec) (hb : c.code = cc) {own ref C : String} {T : u_T} {N index : Nat} {Ts : List Cond} (ci k : Nat) (hts : ∀ w ∈ Ts, w.before args s = true) (hfin : ∀ w ∈ u_ws C T N, w ∈ Ts) (ty0 : Nat → FieldType) (hty : ∀ k, k < N → parseFieldDescriptor (T k).2.2.1 = some (ty0 k)) (hnm : ∀ a, a < N → ∀ b, b < N → a ≠ b → (T a).2.1 ≠ (T b).2.1) (hown : s.vm.findClass own = some m.cls) (hR : xb_R D A h s H) (hS : va_S A H0 H locs) (hk : xb_k h a = ci + 1) (hci : ci < 99) (hc : xcm[ci]? = some (C, T, N)) (hkN : k < N) (hd : (xb_ks ci)[k]? = some 0) (hlink : (Cond.fieldLink own index ref (T k).2.1 (T k).2.2.1).before args s = true) (hsame : ∀ x, s.fieldFound? (T k).1 (T k).2.1 (T k).2.2.1 = some x → s.fieldFound? ref (T k).2.1 (T k).2.2.1 = some x) (hfinal : (T k).2.2.2 = true) (hin2 : meth.name = "<init>") (hdecl : (T k).1 = own) {ty : FieldType} {x : Int32} (hd2 : parseFieldDescriptor (T k).2.2.1 = some ty) (hn : narrow ty (.int x) = .int x) (hfit : fits ty (.int x) = true) (hdg : decode cc pc = .ok (.putfield index, 3))
    (kk : ∀ (H1 : Heap) (locs1 : List Loc), xb_R D A (xb_I h a k x) s H1 → va_S A H0 H1 locs1 → W p l e R s m args below meth c H1 locs1 cells slots Q (F0 m (pc + 3) ls rest)) : W p l e R s m args below meth c H locs cells slots Q (F0 m pc ls (.int x :: .ref a :: rest)) := by
  obtain ⟨ws, tys, i, hP, hD, hK, hin, hi⟩ := hR.obj hk hci
  refine va_putF hexec hb hts hfin ty0 hty hnm hown hK hP hD hS i hi hc k hkN hlink hsame hfinal hin2 hdecl hd2 hn hfit (by rw [xb_fs_len]; exact (List.getElem?_eq_some_iff.mp hd).1) hdg (fun H1 locs1 hP1 hD1 hS1 => kk H1 locs1 ?_ hS1)
  exact xb_putk hk hci hK hin hi hd hP1 hD1 xb_upI.1 xb_upI.2.1 xb_upI.2.2 xb_vaI.1 xb_vaI.2
theorem xb_upL {a k : Nat} {x : Int64} : (∀ b, xb_k (xb_L h a k x) b = xb_k h b) ∧ (∀ b, xb_n (xb_L h a k x) b = xb_n h b) ∧ (∀ b, b ≠ a → xb_i (xb_L h a k x) b = xb_i h b ∧ xb_l (xb_L h a k x) b = xb_l h b ∧ xb_r (xb_L h a k x) b = xb_r h b) := by
  refine ⟨fun _ => rfl, fun _ => rfl, fun b hb => ?_⟩
  exact ⟨rfl, xb_up_n _ _ hb, rfl⟩
theorem xb_vaL {a k : Nat} {x : Int64} : xb_val (xb_L h a k x) a k 1 = .long x ∧ ∀ m, m ≠ k → ∀ d, xb_val (xb_L h a k x) a m d = xb_val h a m d := by
  have e : xb_l (xb_L h a k x) a = va_up (xb_l h a) k x := xb_up_s _ _ _
  refine ⟨?_, fun m hm d => ?_⟩
  · simp only [xb_val, e, xb_up_s]
  · have e2 : xb_l (xb_L h a k x) a m = xb_l h a m := by rw [e]; exact xb_up_n _ _ hm
    match d with
    | 0 => rfl
    | 1 => exact congrArg Value.long e2
    | d + 2 => rfl
theorem xb_putL (hexec : p.tables.exec = Jvm.exec) (hb : c.code = cc) {own ref C : String} {T : u_T} {N index : Nat} {Ts : List Cond} (ci k : Nat) (hts : ∀ w ∈ Ts, w.before args s = true) (hfin : ∀ w ∈ u_ws C T N, w ∈ Ts) (ty0 : Nat → FieldType) (hty : ∀ k, k < N → parseFieldDescriptor (T k).2.2.1 = some (ty0 k)) (hnm : ∀ a, a < N → ∀ b, b < N → a ≠ b → (T a).2.1 ≠ (T b).2.1) (hown : s.vm.findClass own = some m.cls) (hR : xb_R D A h s H) (hS : va_S A H0 H locs) (hk : xb_k h a = ci + 1) (hci : ci < 99) (hc : xcm[ci]? = some (C, T, N)) (hkN : k < N) (hd : (xb_ks ci)[k]? = some 1) (hlink : (Cond.fieldLink own index ref (T k).2.1 (T k).2.2.1).before args s = true) (hsame : ∀ x, s.fieldFound? (T k).1 (T k).2.1 (T k).2.2.1 = some x → s.fieldFound? ref (T k).2.1 (T k).2.2.1 = some x) (hfinal : (T k).2.2.2 = false) {ty : FieldType} {x : Int64} (hd2 : parseFieldDescriptor (T k).2.2.1 = some ty) (hn : narrow ty (.long x) = .long x) (hfit : fits ty (.long x) = true) (hdg : decode cc pc = .ok (.putfield index, 3))
    (kk : ∀ (H1 : Heap) (locs1 : List Loc), xb_R D A (xb_L h a k x) s H1 → va_S A H0 H1 locs1 → W p l e R s m args below meth c H1 locs1 cells slots Q (F0 m (pc + 3) ls rest)) : W p l e R s m args below meth c H locs cells slots Q (F0 m pc ls (.long x :: .ref a :: rest)) := by
  obtain ⟨ws, tys, i, hP, hD, hK, hin, hi⟩ := hR.obj hk hci
  refine va_put hexec hb hts hfin ty0 hty hnm hown hK hP hD hS i hi hc k hkN hlink hsame hfinal hd2 hn hfit (by rw [xb_fs_len]; exact (List.getElem?_eq_some_iff.mp hd).1) hdg (fun H1 locs1 hP1 hD1 hS1 => kk H1 locs1 ?_ hS1)
  exact xb_putk hk hci hK hin hi hd hP1 hD1 xb_upL.1 xb_upL.2.1 xb_upL.2.2 xb_vaL.1 xb_vaL.2
theorem xb_putLN (hexec : p.tables.exec = Jvm.exec) (hb : c.code = cc) {own ref C : String} {host : String} {T : u_T} {N index : Nat} {Ts : List Cond} (ci k : Nat) (hts : ∀ w ∈ Ts, w.before args s = true) (hfin : ∀ w ∈ u_ws C T N, w ∈ Ts) (ty0 : Nat → FieldType) (hty : ∀ k, k < N → parseFieldDescriptor (T k).2.2.1 = some (ty0 k)) (hnm : ∀ a, a < N → ∀ b, b < N → a ≠ b → (T a).2.1 ≠ (T b).2.1) (hown : s.vm.findClass own = some m.cls) (hR : xb_R D A h s H) (hS : va_S A H0 H locs) (hk : xb_k h a = ci + 1) (hci : ci < 99) (hc : xcm[ci]? = some (C, T, N)) (hkN : k < N) (hd : (xb_ks ci)[k]? = some 1) (hlink : (Cond.fieldLinkNest own index ref (T k).2.1 (T k).2.2.1 host).before args s = true) (hsame : ∀ x, s.fieldFound? (T k).1 (T k).2.1 (T k).2.2.1 = some x → s.fieldFound? ref (T k).2.1 (T k).2.2.1 = some x) (hfinal : (T k).2.2.2 = false) {ty : FieldType} {x : Int64} (hd2 : parseFieldDescriptor (T k).2.2.1 = some ty) (hn : narrow ty (.long x) = .long x) (hfit : fits ty (.long x) = true) (hdg : decode cc pc = .ok (.putfield index, 3))
    (kk : ∀ (H1 : Heap) (locs1 : List Loc), xb_R D A (xb_L h a k x) s H1 → va_S A H0 H1 locs1 → W p l e R s m args below meth c H1 locs1 cells slots Q (F0 m (pc + 3) ls rest)) : W p l e R s m args below meth c H locs cells slots Q (F0 m pc ls (.long x :: .ref a :: rest)) := by
  obtain ⟨ws, tys, i, hP, hD, hK, hin, hi⟩ := hR.obj hk hci
  refine va_putN hexec hb hts hfin ty0 hty hnm hown hK hP hD hS i hi hc k hkN hlink hsame hfinal hd2 hn hfit (by rw [xb_fs_len]; exact (List.getElem?_eq_some_iff.mp hd).1) hdg (fun H1 locs1 hP1 hD1 hS1 => kk H1 locs1 ?_ hS1)
  exact xb_putk hk hci hK hin hi hd hP1 hD1 xb_upL.1 xb_upL.2.1 xb_upL.2.2 xb_vaL.1 xb_vaL.2
theorem xb_putLF (hexec : p.tables.exec = Jvm.exec) (hb : c.code = cc) {own ref C : String} {T : u_T} {N index : Nat} {Ts : List Cond} (ci k : Nat) (hts : ∀ w ∈ Ts, w.before args s = true) (hfin : ∀ w ∈ u_ws C T N, w ∈ Ts) (ty0 : Nat → FieldType) (hty : ∀ k, k < N → parseFieldDescriptor (T k).2.2.1 = some (ty0 k)) (hnm : ∀ a, a < N → ∀ b, b < N → a ≠ b → (T a).2.1 ≠ (T b).2.1) (hown : s.vm.findClass own = some m.cls) (hR : xb_R D A h s H) (hS : va_S A H0 H locs) (hk : xb_k h a = ci + 1) (hci : ci < 99) (hc : xcm[ci]? = some (C, T, N)) (hkN : k < N) (hd : (xb_ks ci)[k]? = some 1) (hlink : (Cond.fieldLink own index ref (T k).2.1 (T k).2.2.1).before args s = true) (hsame : ∀ x, s.fieldFound? (T k).1 (T k).2.1 (T k).2.2.1 = some x → s.fieldFound? ref (T k).2.1 (T k).2.2.1 = some x) (hfinal : (T k).2.2.2 = true) (hin2 : meth.name = "<init>") (hdecl : (T k).1 = own) {ty : FieldType} {x : Int64} (hd2 : parseFieldDescriptor (T k).2.2.1 = some ty) (hn : narrow ty (.long x) = .long x) (hfit : fits ty (.long x) = true) (hdg : decode cc pc = .ok (.putfield index, 3))
    (kk : ∀ (H1 : Heap) (locs1 : List Loc), xb_R D A (xb_L h a k x) s H1 → va_S A H0 H1 locs1 → W p l e R s m args below meth c H1 locs1 cells slots Q (F0 m (pc + 3) ls rest)) : W p l e R s m args below meth c H locs cells slots Q (F0 m pc ls (.long x :: .ref a :: rest)) := by
  obtain ⟨ws, tys, i, hP, hD, hK, hin, hi⟩ := hR.obj hk hci
  refine va_putF hexec hb hts hfin ty0 hty hnm hown hK hP hD hS i hi hc k hkN hlink hsame hfinal hin2 hdecl hd2 hn hfit (by rw [xb_fs_len]; exact (List.getElem?_eq_some_iff.mp hd).1) hdg (fun H1 locs1 hP1 hD1 hS1 => kk H1 locs1 ?_ hS1)
  exact xb_putk hk hci hK hin hi hd hP1 hD1 xb_upL.1 xb_upL.2.1 xb_upL.2.2 xb_vaL.1 xb_vaL.2
theorem xb_upP {a k : Nat} {x : Option Nat} : (∀ b, xb_k (xb_P h a k x) b = xb_k h b) ∧ (∀ b, xb_n (xb_P h a k x) b = xb_n h b) ∧ (∀ b, b ≠ a → xb_i (xb_P h a k x) b = xb_i h b ∧ xb_l (xb_P h a k x) b = xb_l h b ∧ xb_r (xb_P h a k x) b = xb_r h b) := by
  refine ⟨fun _ => rfl, fun _ => rfl, fun b hb => ?_⟩
  exact ⟨rfl, rfl, xb_up_n _ _ hb⟩
theorem xb_vaP {a k : Nat} {x : Option Nat} : xb_val (xb_P h a k x) a k 2 = va_rf x ∧ ∀ m, m ≠ k → ∀ d, xb_val (xb_P h a k x) a m d = xb_val h a m d := by
  have e : xb_r (xb_P h a k x) a = va_up (xb_r h a) k x := xb_up_s _ _ _
  refine ⟨?_, fun m hm d => ?_⟩
  · simp only [xb_val, e, xb_up_s]
  · have e2 : xb_r (xb_P h a k x) a m = xb_r h a m := by rw [e]; exact xb_up_n _ _ hm
    match d with
    | 0 => rfl
    | 1 => rfl
    | d + 2 => exact congrArg va_rf e2
theorem xb_putP (hexec : p.tables.exec = Jvm.exec) (hb : c.code = cc) {own ref C : String} {T : u_T} {N index : Nat} {Ts : List Cond} (ci k : Nat) (hts : ∀ w ∈ Ts, w.before args s = true) (hfin : ∀ w ∈ u_ws C T N, w ∈ Ts) (ty0 : Nat → FieldType) (hty : ∀ k, k < N → parseFieldDescriptor (T k).2.2.1 = some (ty0 k)) (hnm : ∀ a, a < N → ∀ b, b < N → a ≠ b → (T a).2.1 ≠ (T b).2.1) (hown : s.vm.findClass own = some m.cls) (hR : xb_R D A h s H) (hS : va_S A H0 H locs) (hk : xb_k h a = ci + 1) (hci : ci < 99) (hc : xcm[ci]? = some (C, T, N)) (hkN : k < N) (hd : (xb_ks ci)[k]? = some 2) (hlink : (Cond.fieldLink own index ref (T k).2.1 (T k).2.2.1).before args s = true) (hsame : ∀ x, s.fieldFound? (T k).1 (T k).2.1 (T k).2.2.1 = some x → s.fieldFound? ref (T k).2.1 (T k).2.2.1 = some x) (hfinal : (T k).2.2.2 = false) {ty : FieldType} {x : Option Nat} (hd2 : parseFieldDescriptor (T k).2.2.1 = some ty) (hn : narrow ty (va_rf x) = va_rf x) (hfit : fits ty (va_rf x) = true) (hdg : decode cc pc = .ok (.putfield index, 3))
    (kk : ∀ (H1 : Heap) (locs1 : List Loc), xb_R D A (xb_P h a k x) s H1 → va_S A H0 H1 locs1 → W p l e R s m args below meth c H1 locs1 cells slots Q (F0 m (pc + 3) ls rest)) : W p l e R s m args below meth c H locs cells slots Q (F0 m pc ls (va_rf x :: .ref a :: rest)) := by
  obtain ⟨ws, tys, i, hP, hD, hK, hin, hi⟩ := hR.obj hk hci
  refine va_put hexec hb hts hfin ty0 hty hnm hown hK hP hD hS i hi hc k hkN hlink hsame hfinal hd2 hn hfit (by rw [xb_fs_len]; exact (List.getElem?_eq_some_iff.mp hd).1) hdg (fun H1 locs1 hP1 hD1 hS1 => kk H1 locs1 ?_ hS1)
  exact xb_putk hk hci hK hin hi hd hP1 hD1 xb_upP.1 xb_upP.2.1 xb_upP.2.2 xb_vaP.1 xb_vaP.2
theorem xb_putPN (hexec : p.tables.exec = Jvm.exec) (hb : c.code = cc) {own ref C : String} {host : String} {T : u_T} {N index : Nat} {Ts : List Cond} (ci k : Nat) (hts : ∀ w ∈ Ts, w.before args s = true) (hfin : ∀ w ∈ u_ws C T N, w ∈ Ts) (ty0 : Nat → FieldType) (hty : ∀ k, k < N → parseFieldDescriptor (T k).2.2.1 = some (ty0 k)) (hnm : ∀ a, a < N → ∀ b, b < N → a ≠ b → (T a).2.1 ≠ (T b).2.1) (hown : s.vm.findClass own = some m.cls) (hR : xb_R D A h s H) (hS : va_S A H0 H locs) (hk : xb_k h a = ci + 1) (hci : ci < 99) (hc : xcm[ci]? = some (C, T, N)) (hkN : k < N) (hd : (xb_ks ci)[k]? = some 2) (hlink : (Cond.fieldLinkNest own index ref (T k).2.1 (T k).2.2.1 host).before args s = true) (hsame : ∀ x, s.fieldFound? (T k).1 (T k).2.1 (T k).2.2.1 = some x → s.fieldFound? ref (T k).2.1 (T k).2.2.1 = some x) (hfinal : (T k).2.2.2 = false) {ty : FieldType} {x : Option Nat} (hd2 : parseFieldDescriptor (T k).2.2.1 = some ty) (hn : narrow ty (va_rf x) = va_rf x) (hfit : fits ty (va_rf x) = true) (hdg : decode cc pc = .ok (.putfield index, 3))
    (kk : ∀ (H1 : Heap) (locs1 : List Loc), xb_R D A (xb_P h a k x) s H1 → va_S A H0 H1 locs1 → W p l e R s m args below meth c H1 locs1 cells slots Q (F0 m (pc + 3) ls rest)) : W p l e R s m args below meth c H locs cells slots Q (F0 m pc ls (va_rf x :: .ref a :: rest)) := by
  obtain ⟨ws, tys, i, hP, hD, hK, hin, hi⟩ := hR.obj hk hci
  refine va_putN hexec hb hts hfin ty0 hty hnm hown hK hP hD hS i hi hc k hkN hlink hsame hfinal hd2 hn hfit (by rw [xb_fs_len]; exact (List.getElem?_eq_some_iff.mp hd).1) hdg (fun H1 locs1 hP1 hD1 hS1 => kk H1 locs1 ?_ hS1)
  exact xb_putk hk hci hK hin hi hd hP1 hD1 xb_upP.1 xb_upP.2.1 xb_upP.2.2 xb_vaP.1 xb_vaP.2
theorem xb_putPF (hexec : p.tables.exec = Jvm.exec) (hb : c.code = cc) {own ref C : String} {T : u_T} {N index : Nat} {Ts : List Cond} (ci k : Nat) (hts : ∀ w ∈ Ts, w.before args s = true) (hfin : ∀ w ∈ u_ws C T N, w ∈ Ts) (ty0 : Nat → FieldType) (hty : ∀ k, k < N → parseFieldDescriptor (T k).2.2.1 = some (ty0 k)) (hnm : ∀ a, a < N → ∀ b, b < N → a ≠ b → (T a).2.1 ≠ (T b).2.1) (hown : s.vm.findClass own = some m.cls) (hR : xb_R D A h s H) (hS : va_S A H0 H locs) (hk : xb_k h a = ci + 1) (hci : ci < 99) (hc : xcm[ci]? = some (C, T, N)) (hkN : k < N) (hd : (xb_ks ci)[k]? = some 2) (hlink : (Cond.fieldLink own index ref (T k).2.1 (T k).2.2.1).before args s = true) (hsame : ∀ x, s.fieldFound? (T k).1 (T k).2.1 (T k).2.2.1 = some x → s.fieldFound? ref (T k).2.1 (T k).2.2.1 = some x) (hfinal : (T k).2.2.2 = true) (hin2 : meth.name = "<init>") (hdecl : (T k).1 = own) {ty : FieldType} {x : Option Nat} (hd2 : parseFieldDescriptor (T k).2.2.1 = some ty) (hn : narrow ty (va_rf x) = va_rf x) (hfit : fits ty (va_rf x) = true) (hdg : decode cc pc = .ok (.putfield index, 3))
    (kk : ∀ (H1 : Heap) (locs1 : List Loc), xb_R D A (xb_P h a k x) s H1 → va_S A H0 H1 locs1 → W p l e R s m args below meth c H1 locs1 cells slots Q (F0 m (pc + 3) ls rest)) : W p l e R s m args below meth c H locs cells slots Q (F0 m pc ls (va_rf x :: .ref a :: rest)) := by
  obtain ⟨ws, tys, i, hP, hD, hK, hin, hi⟩ := hR.obj hk hci
  refine va_putF hexec hb hts hfin ty0 hty hnm hown hK hP hD hS i hi hc k hkN hlink hsame hfinal hin2 hdecl hd2 hn hfit (by rw [xb_fs_len]; exact (List.getElem?_eq_some_iff.mp hd).1) hdg (fun H1 locs1 hP1 hD1 hS1 => kk H1 locs1 ?_ hS1)
  exact xb_putk hk hci hK hin hi hd hP1 hD1 xb_upP.1 xb_upP.2.1 xb_upP.2.2 xb_vaP.1 xb_vaP.2
theorem xb_iald (hexec : p.tables.exec = Jvm.exec) (hb : c.code = cc) (hR : xb_R D A h s H) (hk : xb_k h a = 102) {i : Int32} (hin : vp_in i (xb_n h a)) (hdg : decode cc pc = .ok (.iaload, 1))
    (kk : W p l e R s m args below meth c H locs cells slots Q (F0 m (pc + 1) ls (.int (xb_i h a i.toNatClampNeg) :: rest))) : W p l e R s m args below meth c H locs cells slots Q (F0 m pc ls (.int i :: .ref a :: rest)) := by
  obtain ⟨ws, tys, j, t, cA, hP, hD, hK, hin0, hj, ht, hf⟩ := hR.arr hk (by decide)
  exact va_iald hexec hb hK hP j t hj ht hin hdg kk
theorem xb_bald (hexec : p.tables.exec = Jvm.exec) (hb : c.code = cc) (hR : xb_R D A h s H) (hk : xb_k h a = 100) {i : Int32} (hin : vp_in i (xb_n h a)) (hdg : decode cc pc = .ok (.baload, 1))
    (kk : W p l e R s m args below meth c H locs cells slots Q (F0 m (pc + 1) ls (.int (xb_i h a i.toNatClampNeg) :: rest))) : W p l e R s m args below meth c H locs cells slots Q (F0 m pc ls (.int i :: .ref a :: rest)) := by
  obtain ⟨ws, tys, j, t, cA, hP, hD, hK, hin0, hj, ht, hf⟩ := hR.arr hk (by decide)
  exact va_bald hexec hb hK hP j t hj ht hin hdg kk
theorem xb_zald (hexec : p.tables.exec = Jvm.exec) (hb : c.code = cc) (hR : xb_R D A h s H) (hk : xb_k h a = 101) {i : Int32} (hin : vp_in i (xb_n h a)) (hdg : decode cc pc = .ok (.baload, 1))
    (kk : W p l e R s m args below meth c H locs cells slots Q (F0 m (pc + 1) ls (.int (xb_i h a i.toNatClampNeg) :: rest))) : W p l e R s m args below meth c H locs cells slots Q (F0 m pc ls (.int i :: .ref a :: rest)) := by
  obtain ⟨ws, tys, j, t, cA, hP, hD, hK, hin0, hj, ht, hf⟩ := hR.arr hk (by decide)
  exact va_zald hexec hb hK hP j t hj ht hin hdg kk
theorem xb_lald (hexec : p.tables.exec = Jvm.exec) (hb : c.code = cc) (hR : xb_R D A h s H) (hk : xb_k h a = 103) {i : Int32} (hin : vp_in i (xb_n h a)) (hdg : decode cc pc = .ok (.laload, 1))
    (kk : W p l e R s m args below meth c H locs cells slots Q (F0 m (pc + 1) ls (.long (xb_l h a i.toNatClampNeg) :: rest))) : W p l e R s m args below meth c H locs cells slots Q (F0 m pc ls (.int i :: .ref a :: rest)) := by
  obtain ⟨ws, tys, j, t, cA, hP, hD, hK, hin0, hj, ht, hf⟩ := hR.arr hk (by decide)
  exact va_lald hexec hb hK hP j t hj ht hin hdg kk
theorem xb_aald104 (hexec : p.tables.exec = Jvm.exec) (hb : c.code = cc) (hR : xb_R D A h s H) (hk : xb_k h a = 104) {i : Int32} (hin : vp_in i (xb_n h a)) (hdg : decode cc pc = .ok (.aaload, 1))
    (kk : W p l e R s m args below meth c H locs cells slots Q (F0 m (pc + 1) ls (va_rf (xb_r h a i.toNatClampNeg) :: rest))) : W p l e R s m args below meth c H locs cells slots Q (F0 m pc ls (.int i :: .ref a :: rest)) := by
  obtain ⟨ws, tys, j, t, cA, hP, hD, hK, hin0, hj, ht, hf⟩ := hR.arr hk (by decide)
  exact va_aldq (C := "StackHost$StackModule") hexec hb hK hP j t hj ht hin hdg kk
theorem xb_aald105 (hexec : p.tables.exec = Jvm.exec) (hb : c.code = cc) (hR : xb_R D A h s H) (hk : xb_k h a = 105) {i : Int32} (hin : vp_in i (xb_n h a)) (hdg : decode cc pc = .ok (.aaload, 1))
    (kk : W p l e R s m args below meth c H locs cells slots Q (F0 m (pc + 1) ls (va_rf (xb_r h a i.toNatClampNeg) :: rest))) : W p l e R s m args below meth c H locs cells slots Q (F0 m pc ls (.int i :: .ref a :: rest)) := by
  obtain ⟨ws, tys, j, t, cA, hP, hD, hK, hin0, hj, ht, hf⟩ := hR.arr hk (by decide)
  exact va_aldq (C := "StackHost$Instance") hexec hb hK hP j t hj ht hin hdg kk
theorem xb_fitU {k j : Nat} {f : Nat → Int32} {x : Int32} (hf : xb_fit k f) (h1 : k = 100 → fits .byte (.int x) = true) (h2 : k = 101 → fits .boolean (.int x) = true) : xb_fit k (va_up f j x) := by
  refine ⟨fun hk i => ?_, fun hk i => ?_⟩
  · by_cases h : i = j
    · rw [h, xb_up_s]; exact h1 hk
    · rw [xb_up_n _ _ h]; exact hf.1 hk i
  · by_cases h : i = j
    · rw [h, xb_up_s]; exact h2 hk
    · rw [xb_up_n _ _ h]; exact hf.2 hk i
theorem xb_fitz (x : Int32) : fits .boolean (.int (vp_nar .boolean x)) = true := by
  have h1 : vp_nar .boolean x = x &&& 1 := rfl
  have h2 := pk_and x (m := 1) 1 (by decide)
  rw [h1, h2]
  have h3 : x.toBitVec.toNat % 2 ^ 1 = 0 ∨ x.toBitVec.toNat % 2 ^ 1 = 1 := by omega
  rcases h3 with h3 | h3 <;> rw [h3] <;> decide
theorem xb_iast (hexec : p.tables.exec = Jvm.exec) (hb : c.code = cc) (hR : xb_R D A h s H) (hS : va_S A H0 H locs) (hk : xb_k h a = 102) {i : Int32} {x : Int32} (hin : vp_in i (xb_n h a)) (hdg : decode cc pc = .ok (.iastore, 1))
    (kk : ∀ (H1 : Heap) (locs1 : List Loc), xb_R D A (xb_I h a i.toNatClampNeg x) s H1 → va_S A H0 H1 locs1 → W p l e R s m args below meth c H1 locs1 cells slots Q (F0 m (pc + 1) ls rest)) : W p l e R s m args below meth c H locs cells slots Q (F0 m pc ls (.int x :: .int i :: .ref a :: rest)) := by
  obtain ⟨ws, tys, j, t, cA, hP, hD, hK, hin0, hj, ht, hf⟩ := hR.arr hk (by decide)
  refine va_iast hexec hb hK hP hD hS j t hj ht hin hdg (fun H1 locs1 hP1 hD1 hS1 => kk H1 locs1 ?_ hS1)
  refine xb_R.set hK hin0 hj hP1 hD1 xb_upI.1 xb_upI.2.1 xb_upI.2.2 ⟨fun q1 q2 => ?_, fun q1 => ⟨j, t, cA, ?_, ?_, ?_⟩⟩
  · rw [xb_upI.1, hk] at q2
    omega
  · rw [xb_upI.1, xb_upI.2.1, hk, List.getElem?_set_self (List.getElem?_eq_some_iff.mp hj).1]
    have e : xb_i (xb_I h a i.toNatClampNeg x) a = va_up (xb_i h a) i.toNatClampNeg x := xb_up_s _ _ _
    show _ = some (a, Sum.inl (cA, xb_n h a, xb_el _ a 102))
    simp only [xb_el, e]
    rfl
  · rw [xb_upI.1, hk]
    exact ht
  · rw [xb_upI.1, hk]
    exact ⟨fun h9 => (by cases h9), fun h9 => (by cases h9)⟩
theorem xb_bast (hexec : p.tables.exec = Jvm.exec) (hb : c.code = cc) (hR : xb_R D A h s H) (hS : va_S A H0 H locs) (hk : xb_k h a = 100) {i : Int32} {x : Int32} (hin : vp_in i (xb_n h a)) (hdg : decode cc pc = .ok (.bastore, 1))
    (kk : ∀ (H1 : Heap) (locs1 : List Loc), xb_R D A (xb_I h a i.toNatClampNeg (vp_nar .byte x)) s H1 → va_S A H0 H1 locs1 → W p l e R s m args below meth c H1 locs1 cells slots Q (F0 m (pc + 1) ls rest)) : W p l e R s m args below meth c H locs cells slots Q (F0 m pc ls (.int x :: .int i :: .ref a :: rest)) := by
  obtain ⟨ws, tys, j, t, cA, hP, hD, hK, hin0, hj, ht, hf⟩ := hR.arr hk (by decide)
  refine va_bast hexec hb hK hP hD hS j t hj ht hin hdg (fun H1 locs1 hP1 hD1 hS1 => kk H1 locs1 ?_ hS1)
  refine xb_R.set hK hin0 hj hP1 hD1 xb_upI.1 xb_upI.2.1 xb_upI.2.2 ⟨fun q1 q2 => ?_, fun q1 => ⟨j, t, cA, ?_, ?_, ?_⟩⟩
  · rw [xb_upI.1, hk] at q2
    omega
  · rw [xb_upI.1, xb_upI.2.1, hk, List.getElem?_set_self (List.getElem?_eq_some_iff.mp hj).1]
    have e : xb_i (xb_I h a i.toNatClampNeg (vp_nar .byte x)) a = va_up (xb_i h a) i.toNatClampNeg (vp_nar .byte x) := xb_up_s _ _ _
    show _ = some (a, Sum.inl (cA, xb_n h a, xb_el _ a 100))
    simp only [xb_el, e]
    rfl
  · rw [xb_upI.1, hk]
    exact ht
  · rw [xb_upI.1, hk]
    rw [show xb_i (xb_I h a i.toNatClampNeg (vp_nar .byte x)) a = va_up (xb_i h a) i.toNatClampNeg (vp_nar .byte x) from xb_up_s _ _ _]
    exact xb_fitU hf (fun _ => by rw [vp_nar_byte]; exact pk_fb x) (fun h9 => by cases h9)
theorem xb_zast (hexec : p.tables.exec = Jvm.exec) (hb : c.code = cc) (hR : xb_R D A h s H) (hS : va_S A H0 H locs) (hk : xb_k h a = 101) {i : Int32} {x : Int32} (hin : vp_in i (xb_n h a)) (hdg : decode cc pc = .ok (.bastore, 1))
    (kk : ∀ (H1 : Heap) (locs1 : List Loc), xb_R D A (xb_I h a i.toNatClampNeg (vp_nar .boolean x)) s H1 → va_S A H0 H1 locs1 → W p l e R s m args below meth c H1 locs1 cells slots Q (F0 m (pc + 1) ls rest)) : W p l e R s m args below meth c H locs cells slots Q (F0 m pc ls (.int x :: .int i :: .ref a :: rest)) := by
  obtain ⟨ws, tys, j, t, cA, hP, hD, hK, hin0, hj, ht, hf⟩ := hR.arr hk (by decide)
  refine va_zast hexec hb hK hP hD hS j t hj ht hin hdg (fun H1 locs1 hP1 hD1 hS1 => kk H1 locs1 ?_ hS1)
  refine xb_R.set hK hin0 hj hP1 hD1 xb_upI.1 xb_upI.2.1 xb_upI.2.2 ⟨fun q1 q2 => ?_, fun q1 => ⟨j, t, cA, ?_, ?_, ?_⟩⟩
  · rw [xb_upI.1, hk] at q2
    omega
  · rw [xb_upI.1, xb_upI.2.1, hk, List.getElem?_set_self (List.getElem?_eq_some_iff.mp hj).1]
    have e : xb_i (xb_I h a i.toNatClampNeg (vp_nar .boolean x)) a = va_up (xb_i h a) i.toNatClampNeg (vp_nar .boolean x) := xb_up_s _ _ _
    show _ = some (a, Sum.inl (cA, xb_n h a, xb_el _ a 101))
    simp only [xb_el, e]
    rfl
  · rw [xb_upI.1, hk]
    exact ht
  · rw [xb_upI.1, hk]
    rw [show xb_i (xb_I h a i.toNatClampNeg (vp_nar .boolean x)) a = va_up (xb_i h a) i.toNatClampNeg (vp_nar .boolean x) from xb_up_s _ _ _]
    exact xb_fitU hf (fun h9 => by cases h9) (fun _ => xb_fitz x)
theorem xb_last (hexec : p.tables.exec = Jvm.exec) (hb : c.code = cc) (hR : xb_R D A h s H) (hS : va_S A H0 H locs) (hk : xb_k h a = 103) {i : Int32} {x : Int64} (hin : vp_in i (xb_n h a)) (hdg : decode cc pc = .ok (.lastore, 1))
    (kk : ∀ (H1 : Heap) (locs1 : List Loc), xb_R D A (xb_L h a i.toNatClampNeg x) s H1 → va_S A H0 H1 locs1 → W p l e R s m args below meth c H1 locs1 cells slots Q (F0 m (pc + 1) ls rest)) : W p l e R s m args below meth c H locs cells slots Q (F0 m pc ls (.long x :: .int i :: .ref a :: rest)) := by
  obtain ⟨ws, tys, j, t, cA, hP, hD, hK, hin0, hj, ht, hf⟩ := hR.arr hk (by decide)
  refine va_last hexec hb hK hP hD hS j t hj ht hin hdg (fun H1 locs1 hP1 hD1 hS1 => kk H1 locs1 ?_ hS1)
  refine xb_R.set hK hin0 hj hP1 hD1 xb_upL.1 xb_upL.2.1 xb_upL.2.2 ⟨fun q1 q2 => ?_, fun q1 => ⟨j, t, cA, ?_, ?_, ?_⟩⟩
  · rw [xb_upL.1, hk] at q2
    omega
  · rw [xb_upL.1, xb_upL.2.1, hk, List.getElem?_set_self (List.getElem?_eq_some_iff.mp hj).1]
    have e : xb_l (xb_L h a i.toNatClampNeg x) a = va_up (xb_l h a) i.toNatClampNeg x := xb_up_s _ _ _
    show _ = some (a, Sum.inl (cA, xb_n h a, xb_el _ a 103))
    simp only [xb_el, e]
    rfl
  · rw [xb_upL.1, hk]
    exact ht
  · rw [xb_upL.1, hk]
    exact ⟨fun h9 => (by cases h9), fun h9 => (by cases h9)⟩
theorem xb_alen {kd : Nat} (hexec : p.tables.exec = Jvm.exec) (hb : c.code = cc) (hR : xb_R D A h s H) (hk : xb_k h a = kd) (hkd : 100 ≤ kd) (hdg : decode cc pc = .ok (.arraylength, 1))
    (kk : W p l e R s m args below meth c H locs cells slots Q (F0 m (pc + 1) ls (.int (nI (xb_n h a)) :: rest))) : W p l e R s m args below meth c H locs cells slots Q (F0 m pc ls (.ref a :: rest)) := by
  obtain ⟨ws, tys, j, t, cA, hP, hD, hK, hin0, hj, ht, hf⟩ := hR.arr hk hkd
  exact va_alen hexec hb hK hP j t hj ht rfl hdg kk
theorem xb_newa_b (hexec : p.tables.exec = Jvm.exec) (hb : c.code = cc) (harr : (Cond.arrayClass .byte).before args s = true) (hR : xb_R D A h s H) (hS : va_S A H0 H locs) (hA : ∀ q, H0.size ≤ q → A q) {n : Int32} (hn : ¬ n < 0) (hbytes : n.toNatClampNeg * componentBytes .byte ≤ 536870912) (hcells : cells + 1 ≤ R.cells) (hslots : slots + n.toNatClampNeg ≤ R.slots) (hdg : decode cc pc = .ok (.newarray .byte, 2))
    (kk : ∀ (q : Nat) (H1 : Heap), xb_k h q = 0 → xb_R D A (xb_new h q 100 n.toNatClampNeg) s H1 → va_S A H0 H1 locs → W p l e R s m args below meth c H1 locs (cells + 1) (slots + n.toNatClampNeg) Q (F0 m (pc + 2) ls (.ref q :: rest))) : W p l e R s m args below meth c H locs cells slots Q (F0 m pc ls (.int n :: rest)) := by
  obtain ⟨ws, tys, hP, hD, hK, hin⟩ := hR
  refine va_newa (atype := .byte) (ty := .byte) (a0 := (n.toNatClampNeg, .inl (fun _ => 0))) hexec hb harr rfl hK hP hD hS hA (fun _ => rfl) hn rfl hbytes hcells hslots hdg (fun q cA H1 hK1 hP1 hD1 hS1 => ?_)
  have key := xb_R.push (kd := 100) (n := n.toNatClampNeg) hin hK1 hP1 hD1 ⟨fun q1 q2 => ?_, fun q1 => ⟨ws.length, tys.length, cA, ?_, ?_, ?_⟩⟩
  · exact kk q H1 key.1 key.2 hS1
  · rw [show xb_k (xb_new h q 100 n.toNatClampNeg) q = 100 from xb_up_s _ _ _] at q2
    omega
  · rw [show xb_k (xb_new h q 100 n.toNatClampNeg) q = 100 from xb_up_s _ _ _, show xb_n (xb_new h q 100 n.toNatClampNeg) q = n.toNatClampNeg from xb_up_s _ _ _]
    have e1 : xb_i (xb_new h q 100 n.toNatClampNeg) q = fun _ => 0 := xb_up_s _ _ _
    have e2 : xb_l (xb_new h q 100 n.toNatClampNeg) q = fun _ => 0 := xb_up_s _ _ _
    simp [xb_el, e1, e2]
  · rw [show xb_k (xb_new h q 100 n.toNatClampNeg) q = 100 from xb_up_s _ _ _]
    simp [xb_ty]
  · rw [xb_new_i]
    exact ⟨fun _ _ => (by decide : fits .byte (.int 0) = true), fun _ _ => (by decide : fits .boolean (.int 0) = true)⟩
theorem xb_newa_z (hexec : p.tables.exec = Jvm.exec) (hb : c.code = cc) (harr : (Cond.arrayClass .boolean).before args s = true) (hR : xb_R D A h s H) (hS : va_S A H0 H locs) (hA : ∀ q, H0.size ≤ q → A q) {n : Int32} (hn : ¬ n < 0) (hbytes : n.toNatClampNeg * componentBytes .boolean ≤ 536870912) (hcells : cells + 1 ≤ R.cells) (hslots : slots + n.toNatClampNeg ≤ R.slots) (hdg : decode cc pc = .ok (.newarray .boolean, 2))
    (kk : ∀ (q : Nat) (H1 : Heap), xb_k h q = 0 → xb_R D A (xb_new h q 101 n.toNatClampNeg) s H1 → va_S A H0 H1 locs → W p l e R s m args below meth c H1 locs (cells + 1) (slots + n.toNatClampNeg) Q (F0 m (pc + 2) ls (.ref q :: rest))) : W p l e R s m args below meth c H locs cells slots Q (F0 m pc ls (.int n :: rest)) := by
  obtain ⟨ws, tys, hP, hD, hK, hin⟩ := hR
  refine va_newa (atype := .boolean) (ty := .boolean) (a0 := (n.toNatClampNeg, .inl (fun _ => 0))) hexec hb harr rfl hK hP hD hS hA (fun _ => rfl) hn rfl hbytes hcells hslots hdg (fun q cA H1 hK1 hP1 hD1 hS1 => ?_)
  have key := xb_R.push (kd := 101) (n := n.toNatClampNeg) hin hK1 hP1 hD1 ⟨fun q1 q2 => ?_, fun q1 => ⟨ws.length, tys.length, cA, ?_, ?_, ?_⟩⟩
  · exact kk q H1 key.1 key.2 hS1
  · rw [show xb_k (xb_new h q 101 n.toNatClampNeg) q = 101 from xb_up_s _ _ _] at q2
    omega
  · rw [show xb_k (xb_new h q 101 n.toNatClampNeg) q = 101 from xb_up_s _ _ _, show xb_n (xb_new h q 101 n.toNatClampNeg) q = n.toNatClampNeg from xb_up_s _ _ _]
    have e1 : xb_i (xb_new h q 101 n.toNatClampNeg) q = fun _ => 0 := xb_up_s _ _ _
    have e2 : xb_l (xb_new h q 101 n.toNatClampNeg) q = fun _ => 0 := xb_up_s _ _ _
    simp [xb_el, e1, e2]
  · rw [show xb_k (xb_new h q 101 n.toNatClampNeg) q = 101 from xb_up_s _ _ _]
    simp [xb_ty]
  · rw [xb_new_i]
    exact ⟨fun _ _ => (by decide : fits .byte (.int 0) = true), fun _ _ => (by decide : fits .boolean (.int 0) = true)⟩
theorem xb_newa_i (hexec : p.tables.exec = Jvm.exec) (hb : c.code = cc) (harr : (Cond.arrayClass .int).before args s = true) (hR : xb_R D A h s H) (hS : va_S A H0 H locs) (hA : ∀ q, H0.size ≤ q → A q) {n : Int32} (hn : ¬ n < 0) (hbytes : n.toNatClampNeg * componentBytes .int ≤ 536870912) (hcells : cells + 1 ≤ R.cells) (hslots : slots + n.toNatClampNeg ≤ R.slots) (hdg : decode cc pc = .ok (.newarray .int, 2))
    (kk : ∀ (q : Nat) (H1 : Heap), xb_k h q = 0 → xb_R D A (xb_new h q 102 n.toNatClampNeg) s H1 → va_S A H0 H1 locs → W p l e R s m args below meth c H1 locs (cells + 1) (slots + n.toNatClampNeg) Q (F0 m (pc + 2) ls (.ref q :: rest))) : W p l e R s m args below meth c H locs cells slots Q (F0 m pc ls (.int n :: rest)) := by
  obtain ⟨ws, tys, hP, hD, hK, hin⟩ := hR
  refine va_newa (atype := .int) (ty := .int) (a0 := (n.toNatClampNeg, .inl (fun _ => 0))) hexec hb harr rfl hK hP hD hS hA (fun _ => rfl) hn rfl hbytes hcells hslots hdg (fun q cA H1 hK1 hP1 hD1 hS1 => ?_)
  have key := xb_R.push (kd := 102) (n := n.toNatClampNeg) hin hK1 hP1 hD1 ⟨fun q1 q2 => ?_, fun q1 => ⟨ws.length, tys.length, cA, ?_, ?_, ?_⟩⟩
  · exact kk q H1 key.1 key.2 hS1
  · rw [show xb_k (xb_new h q 102 n.toNatClampNeg) q = 102 from xb_up_s _ _ _] at q2
    omega
  · rw [show xb_k (xb_new h q 102 n.toNatClampNeg) q = 102 from xb_up_s _ _ _, show xb_n (xb_new h q 102 n.toNatClampNeg) q = n.toNatClampNeg from xb_up_s _ _ _]
    have e1 : xb_i (xb_new h q 102 n.toNatClampNeg) q = fun _ => 0 := xb_up_s _ _ _
    have e2 : xb_l (xb_new h q 102 n.toNatClampNeg) q = fun _ => 0 := xb_up_s _ _ _
    simp [xb_el, e1, e2]
  · rw [show xb_k (xb_new h q 102 n.toNatClampNeg) q = 102 from xb_up_s _ _ _]
    simp [xb_ty]
  · rw [xb_new_i]
    exact ⟨fun _ _ => (by decide : fits .byte (.int 0) = true), fun _ _ => (by decide : fits .boolean (.int 0) = true)⟩
theorem xb_newa_l (hexec : p.tables.exec = Jvm.exec) (hb : c.code = cc) (harr : (Cond.arrayClass .long).before args s = true) (hR : xb_R D A h s H) (hS : va_S A H0 H locs) (hA : ∀ q, H0.size ≤ q → A q) {n : Int32} (hn : ¬ n < 0) (hbytes : n.toNatClampNeg * componentBytes .long ≤ 536870912) (hcells : cells + 1 ≤ R.cells) (hslots : slots + n.toNatClampNeg ≤ R.slots) (hdg : decode cc pc = .ok (.newarray .long, 2))
    (kk : ∀ (q : Nat) (H1 : Heap), xb_k h q = 0 → xb_R D A (xb_new h q 103 n.toNatClampNeg) s H1 → va_S A H0 H1 locs → W p l e R s m args below meth c H1 locs (cells + 1) (slots + n.toNatClampNeg) Q (F0 m (pc + 2) ls (.ref q :: rest))) : W p l e R s m args below meth c H locs cells slots Q (F0 m pc ls (.int n :: rest)) := by
  obtain ⟨ws, tys, hP, hD, hK, hin⟩ := hR
  refine va_newa (atype := .long) (ty := .long) (a0 := (n.toNatClampNeg, .inr (.inl (fun _ => 0)))) hexec hb harr rfl hK hP hD hS hA (fun _ => rfl) hn rfl hbytes hcells hslots hdg (fun q cA H1 hK1 hP1 hD1 hS1 => ?_)
  have key := xb_R.push (kd := 103) (n := n.toNatClampNeg) hin hK1 hP1 hD1 ⟨fun q1 q2 => ?_, fun q1 => ⟨ws.length, tys.length, cA, ?_, ?_, ?_⟩⟩
  · exact kk q H1 key.1 key.2 hS1
  · rw [show xb_k (xb_new h q 103 n.toNatClampNeg) q = 103 from xb_up_s _ _ _] at q2
    omega
  · rw [show xb_k (xb_new h q 103 n.toNatClampNeg) q = 103 from xb_up_s _ _ _, show xb_n (xb_new h q 103 n.toNatClampNeg) q = n.toNatClampNeg from xb_up_s _ _ _]
    have e1 : xb_i (xb_new h q 103 n.toNatClampNeg) q = fun _ => 0 := xb_up_s _ _ _
    have e2 : xb_l (xb_new h q 103 n.toNatClampNeg) q = fun _ => 0 := xb_up_s _ _ _
    simp [xb_el, e1, e2]
  · rw [show xb_k (xb_new h q 103 n.toNatClampNeg) q = 103 from xb_up_s _ _ _]
    simp [xb_ty]
  · rw [xb_new_i]
    exact ⟨fun _ _ => (by decide : fits .byte (.int 0) = true), fun _ _ => (by decide : fits .boolean (.int 0) = true)⟩
theorem xb_newq104 (hexec : p.tables.exec = Jvm.exec) (hb : c.code = cc) {own : String} {index : Nat} (hown : s.vm.findClass own = some m.cls) (hclink : (Cond.classLink own index "StackHost$StackModule").before args s = true) (hover : va_AO "StackHost$StackModule" s) (hR : xb_R D A h s H) (hS : va_S A H0 H locs) (hA : ∀ q, H0.size ≤ q → A q) {n : Int32} (hn : ¬ n < 0) (hbytes : n.toNatClampNeg * 4 ≤ 536870912) (hcells : cells + 1 ≤ R.cells) (hslots : slots + n.toNatClampNeg ≤ R.slots) (hdg : decode cc pc = .ok (.anewarray index, 3))
    (kk : ∀ (q : Nat) (H1 : Heap), xb_k h q = 0 → xb_R D A (xb_new h q 104 n.toNatClampNeg) s H1 → va_S A H0 H1 locs → W p l e R s m args below meth c H1 locs (cells + 1) (slots + n.toNatClampNeg) Q (F0 m (pc + 3) ls (.ref q :: rest))) : W p l e R s m args below meth c H locs cells slots Q (F0 m pc ls (.int n :: rest)) := by
  obtain ⟨ws, tys, hP, hD, hK, hin⟩ := hR
  refine va_newq hexec hb hown hclink hover hK hP hD hS hA hn rfl hbytes hcells hslots hdg (fun q cA H1 hK1 hP1 hD1 hS1 => ?_)
  have key := xb_R.push (kd := 104) (n := n.toNatClampNeg) hin hK1 hP1 hD1 ⟨fun q1 q2 => ?_, fun q1 => ⟨ws.length, tys.length, cA, ?_, ?_, ?_⟩⟩
  · exact kk q H1 key.1 key.2 hS1
  · rw [show xb_k (xb_new h q 104 n.toNatClampNeg) q = 104 from xb_up_s _ _ _] at q2
    omega
  · rw [show xb_k (xb_new h q 104 n.toNatClampNeg) q = 104 from xb_up_s _ _ _, show xb_n (xb_new h q 104 n.toNatClampNeg) q = n.toNatClampNeg from xb_up_s _ _ _]
    have e1 : xb_r (xb_new h q 104 n.toNatClampNeg) q = fun _ => none := xb_up_s _ _ _
    simp [xb_el, e1]
  · rw [show xb_k (xb_new h q 104 n.toNatClampNeg) q = 104 from xb_up_s _ _ _]
    simp [xb_ty]
  · rw [xb_new_i]
    exact ⟨fun _ _ => (by decide : fits .byte (.int 0) = true), fun _ _ => (by decide : fits .boolean (.int 0) = true)⟩
theorem xb_aast104 (hexec : p.tables.exec = Jvm.exec) (hb : c.code = cc) (hR : xb_R D A h s H) (hS : va_S A H0 H locs) (hk : xb_k h a = 104) {i : Int32} {v : Nat} (hkv : xb_k h v = 3) (hin : vp_in i (xb_n h a)) (hdg : decode cc pc = .ok (.aastore, 1))
    (kk : ∀ (H1 : Heap) (locs1 : List Loc), xb_R D A (xb_P h a i.toNatClampNeg (some v)) s H1 → va_S A H0 H1 locs1 → W p l e R s m args below meth c H1 locs1 cells slots Q (F0 m (pc + 1) ls rest)) : W p l e R s m args below meth c H locs cells slots Q (F0 m pc ls (.ref v :: .int i :: .ref a :: rest)) := by
  obtain ⟨ws, tys, j, t, cA, hP, hD, hK, hin0, hj, ht, hf⟩ := hR.arr hk (by decide)
  obtain ⟨jv, hv⟩ := (hin0 v).1 (by omega) (by omega)
  simp only [hkv] at hv
  refine va_astq (r := (R_StackModule, F_StackModule, 19)) hexec hb hK hP hD hS j t jv 2 hj ht hv rfl hin hdg (fun H1 locs1 hP1 hD1 hS1 => kk H1 locs1 ?_ hS1)
  refine xb_R.set hK hin0 hj hP1 hD1 xb_upP.1 xb_upP.2.1 xb_upP.2.2 ⟨fun q1 q2 => ?_, fun q1 => ⟨j, t, cA, ?_, ?_, ?_⟩⟩
  · rw [xb_upP.1, hk] at q2
    omega
  · rw [xb_upP.1, xb_upP.2.1, hk, List.getElem?_set_self (List.getElem?_eq_some_iff.mp hj).1]
    have e : xb_r (xb_P h a i.toNatClampNeg (some v)) a = va_up (xb_r h a) i.toNatClampNeg (some v) := xb_up_s _ _ _
    show _ = some (a, Sum.inl (cA, xb_n h a, xb_el _ a 104))
    simp only [xb_el, e]
    rfl
  · rw [xb_upP.1, hk]
    exact ht
  · rw [xb_upP.1, hk]
    exact ⟨fun h9 => (by cases h9), fun h9 => (by cases h9)⟩
theorem xb_newq105 (hexec : p.tables.exec = Jvm.exec) (hb : c.code = cc) {own : String} {index : Nat} (hown : s.vm.findClass own = some m.cls) (hclink : (Cond.classLink own index "StackHost$Instance").before args s = true) (hover : va_AO "StackHost$Instance" s) (hR : xb_R D A h s H) (hS : va_S A H0 H locs) (hA : ∀ q, H0.size ≤ q → A q) {n : Int32} (hn : ¬ n < 0) (hbytes : n.toNatClampNeg * 4 ≤ 536870912) (hcells : cells + 1 ≤ R.cells) (hslots : slots + n.toNatClampNeg ≤ R.slots) (hdg : decode cc pc = .ok (.anewarray index, 3))
    (kk : ∀ (q : Nat) (H1 : Heap), xb_k h q = 0 → xb_R D A (xb_new h q 105 n.toNatClampNeg) s H1 → va_S A H0 H1 locs → W p l e R s m args below meth c H1 locs (cells + 1) (slots + n.toNatClampNeg) Q (F0 m (pc + 3) ls (.ref q :: rest))) : W p l e R s m args below meth c H locs cells slots Q (F0 m pc ls (.int n :: rest)) := by
  obtain ⟨ws, tys, hP, hD, hK, hin⟩ := hR
  refine va_newq hexec hb hown hclink hover hK hP hD hS hA hn rfl hbytes hcells hslots hdg (fun q cA H1 hK1 hP1 hD1 hS1 => ?_)
  have key := xb_R.push (kd := 105) (n := n.toNatClampNeg) hin hK1 hP1 hD1 ⟨fun q1 q2 => ?_, fun q1 => ⟨ws.length, tys.length, cA, ?_, ?_, ?_⟩⟩
  · exact kk q H1 key.1 key.2 hS1
  · rw [show xb_k (xb_new h q 105 n.toNatClampNeg) q = 105 from xb_up_s _ _ _] at q2
    omega
  · rw [show xb_k (xb_new h q 105 n.toNatClampNeg) q = 105 from xb_up_s _ _ _, show xb_n (xb_new h q 105 n.toNatClampNeg) q = n.toNatClampNeg from xb_up_s _ _ _]
    have e1 : xb_r (xb_new h q 105 n.toNatClampNeg) q = fun _ => none := xb_up_s _ _ _
    simp [xb_el, e1]
  · rw [show xb_k (xb_new h q 105 n.toNatClampNeg) q = 105 from xb_up_s _ _ _]
    simp [xb_ty]
  · rw [xb_new_i]
    exact ⟨fun _ _ => (by decide : fits .byte (.int 0) = true), fun _ _ => (by decide : fits .boolean (.int 0) = true)⟩
theorem xb_aast105 (hexec : p.tables.exec = Jvm.exec) (hb : c.code = cc) (hR : xb_R D A h s H) (hS : va_S A H0 H locs) (hk : xb_k h a = 105) {i : Int32} {v : Nat} (hkv : xb_k h v = 11) (hin : vp_in i (xb_n h a)) (hdg : decode cc pc = .ok (.aastore, 1))
    (kk : ∀ (H1 : Heap) (locs1 : List Loc), xb_R D A (xb_P h a i.toNatClampNeg (some v)) s H1 → va_S A H0 H1 locs1 → W p l e R s m args below meth c H1 locs1 cells slots Q (F0 m (pc + 1) ls rest)) : W p l e R s m args below meth c H locs cells slots Q (F0 m pc ls (.ref v :: .int i :: .ref a :: rest)) := by
  obtain ⟨ws, tys, j, t, cA, hP, hD, hK, hin0, hj, ht, hf⟩ := hR.arr hk (by decide)
  obtain ⟨jv, hv⟩ := (hin0 v).1 (by omega) (by omega)
  simp only [hkv] at hv
  refine va_astq (r := (R_Instance, F_Instance, 8)) hexec hb hK hP hD hS j t jv 10 hj ht hv rfl hin hdg (fun H1 locs1 hP1 hD1 hS1 => kk H1 locs1 ?_ hS1)
  refine xb_R.set hK hin0 hj hP1 hD1 xb_upP.1 xb_upP.2.1 xb_upP.2.2 ⟨fun q1 q2 => ?_, fun q1 => ⟨j, t, cA, ?_, ?_, ?_⟩⟩
  · rw [xb_upP.1, hk] at q2
    omega
  · rw [xb_upP.1, xb_upP.2.1, hk, List.getElem?_set_self (List.getElem?_eq_some_iff.mp hj).1]
    have e : xb_r (xb_P h a i.toNatClampNeg (some v)) a = va_up (xb_r h a) i.toNatClampNeg (some v) := xb_up_s _ _ _
    show _ = some (a, Sum.inl (cA, xb_n h a, xb_el _ a 105))
    simp only [xb_el, e]
    rfl
  · rw [xb_upP.1, hk]
    exact ht
  · rw [xb_upP.1, hk]
    exact ⟨fun h9 => (by cases h9), fun h9 => (by cases h9)⟩
theorem xb_clone_b (hexec : p.tables.exec = Jvm.exec) (hb : c.code = cc) (hml : c.maxLocals = ls.size) {own : String} {index : Nat} (hown : s.vm.findClass own = some m.cls)
    (hlink : (Cond.methodLink own index ⟨"[B", "clone", "()Ljava/lang/Object;"⟩).before args s = true) (hsame : (Cond.sameMethod "[B" "java/lang/Object" "clone" "()Ljava/lang/Object;").before args s = true)
    (hnat : (Cond.native ⟨"java/lang/Object", "clone", "()Ljava/lang/Object;"⟩).before args s = true) (hinst : (Cond.instanceMethod ⟨"java/lang/Object", "clone", "()Ljava/lang/Object;"⟩).before args s = true)
    (hsel : (Cond.selects "[B" ⟨"[B", "clone", "()Ljava/lang/Object;"⟩ ⟨"java/lang/Object", "clone", "()Ljava/lang/Object;"⟩).before args s = true) (hcl : va_Nw (.castable "[B" "java/lang/Cloneable") s)
    (hR : xb_R D A h s H) (hS : va_S A H0 H locs) (hA : ∀ q, H0.size ≤ q → A q) (hk : xb_k h a = 100) (hframes : 1 ≤ R.frames) (hlocals : (rest.map fun v => v.category).sum + 14 ≤ R.locals) (hcells : cells + 1 ≤ R.cells) (hslots : slots + xb_n h a ≤ R.slots) (hdg : decode cc pc = .ok (.invokevirtual index, 3))
    (kk : ∀ (q : Nat) (H1 : Heap), xb_k h q = 0 → xb_R D A (xb_Ia (xb_new h q 100 (xb_n h a)) q (xb_i h a)) s H1 → va_S A H0 H1 locs → W p l e R s m args below meth c H1 locs (cells + 1) (slots + xb_n h a) Q (F0 m (pc + 3) ls (.ref q :: rest))) : W p l e R s m args below meth c H locs cells slots Q (F0 m pc ls (.ref a :: rest)) := by
  obtain ⟨ws, tys, j, t, cA, hP, hD, hK, hin0, hj, ht, hf⟩ := hR.arr hk (by decide)
  have hra : s.vm.findClass "[B" = some cA := (hK.2 t _ ht).2
  refine va_clone (ad := "[B") hexec hb hml hown hlink hsame hnat hinst hsel hcl hK hP hD hS hA j t hj ht hra (fun i v hv => ?_) hframes hlocals hcells hslots hdg (fun q H1 hK1 hP1 hD1 hS1 => ?_)
  · have h1 : (vp_cell cA (xb_n h a, xb_el h a 100)).slots[i]? = if i < xb_n h a then some (.int (xb_i h a i)) else none := by
      by_cases h9 : i < xb_n h a <;> simp [vp_cell, xb_el, arrV, h9]
    rw [h1] at hv
    by_cases h9 : i < xb_n h a
    · rw [if_pos h9] at hv
      cases hv
      exact hf.1 rfl i
    · rw [if_neg h9] at hv
      cases hv
  · have nn := xb_nIa h q 100 (xb_n h a) (xb_i h a)
    have key := xb_R.pushG (h' := xb_Ia (xb_new h q 100 (xb_n h a)) q (xb_i h a)) hin0 hK1 hP1 hD1 nn.1 ⟨fun q1 q2 => ?_, fun q1 => ⟨ws.length, tys.length, cA, ?_, ?_, ?_⟩⟩
    · exact kk q H1 key.1 key.2 hS1
    · rw [nn.2.1] at q2
      omega
    · rw [nn.2.1, nn.2.2.1]
      simp [xb_el, nn.2.2.2]
    · rw [nn.2.1]
      simp [xb_ty]
    · rw [nn.2.1]
      rw [nn.2.2.2]; exact hf
theorem xb_copy_b (hexec : p.tables.exec = Jvm.exec) (hb : c.code = cc) (hml : c.maxLocals = ls.size) {own : String} {index : Nat} (hown : s.vm.findClass own = some m.cls) (hlink : (Cond.methodLink own index arraycopyName).before args s = true) (hnat : (Cond.native arraycopyName).before args s = true) (hstat : (Cond.static arraycopyName).before args s = true) (hini : (Cond.initialized "java/lang/System").before args s = true)
    (hR : xb_R D A h s H) (hS : va_S A H0 H locs) {a0 : Nat} (hk0 : xb_k h a0 = 100) (hk : xb_k h a = 100) {sp dp n : Int32} (h1 : ¬ sp < 0) (h2 : ¬ dp < 0) (h3 : ¬ n < 0) (h4 : sp.toNatClampNeg + n.toNatClampNeg ≤ xb_n h a0) (h5 : dp.toNatClampNeg + n.toNatClampNeg ≤ xb_n h a)
    (hframes : 1 ≤ R.frames) (hlocals : (rest.map fun v => v.category).sum + (nativeFrameWords "java/lang/System" "arraycopy" 5 + 11) ≤ R.locals) (hdg : decode cc pc = .ok (.invokestatic index, 3))
    (kk : ∀ (H1 : Heap) (locs1 : List Loc), xb_R D A (xb_Ia h a (va_cpy (xb_i h a0) (xb_i h a) sp.toNatClampNeg dp.toNatClampNeg n.toNatClampNeg)) s H1 → va_S A H0 H1 locs1 → W p l e R s m args below meth c H1 locs1 cells slots Q (F0 m (pc + 3) ls rest)) : W p l e R s m args below meth c H locs cells slots Q (F0 m pc ls (.int n :: .int dp :: .ref a :: .int sp :: .ref a0 :: rest)) := by
  obtain ⟨ws, tys, j, t, cA, hP, hD, hK, hin0, hj, ht, hf⟩ := hR.arr hk (by decide)
  obtain ⟨j0, t0, c0, hj0, ht0, hf0⟩ := (hin0 a0).2 (by omega)
  rw [hk0] at hj0 ht0 hf0
  have gf : ∀ i, fits .byte (.int (xb_i h a0 i)) = true := hf0.1 rfl
  have eo : ∀ b, b ≠ a → xb_i (xb_Ia h a (va_cpy (xb_i h a0) (xb_i h a) sp.toNatClampNeg dp.toNatClampNeg n.toNatClampNeg)) b = xb_i h b ∧ xb_l (xb_Ia h a (va_cpy (xb_i h a0) (xb_i h a) sp.toNatClampNeg dp.toNatClampNeg n.toNatClampNeg)) b = xb_l h b ∧ xb_r (xb_Ia h a (va_cpy (xb_i h a0) (xb_i h a) sp.toNatClampNeg dp.toNatClampNeg n.toNatClampNeg)) b = xb_r h b := fun b hb => ⟨xb_up_n _ _ hb, rfl, rfl⟩
  have ev : xb_i (xb_Ia h a (va_cpy (xb_i h a0) (xb_i h a) sp.toNatClampNeg dp.toNatClampNeg n.toNatClampNeg)) a = va_cpy (xb_i h a0) (xb_i h a) sp.toNatClampNeg dp.toNatClampNeg n.toNatClampNeg := xb_up_s _ _ _
  refine va_copyi hexec hb hml hown hlink hnat hstat hini hK hP hD hS j0 j t0 t hj0 hj ht0 ht rfl h1 h2 h3 h4 h5 (fun i _ => gf _) hframes hlocals hdg (fun H1 locs1 hP1 hD1 hS1 => kk H1 locs1 ?_ hS1)
  refine xb_R.set hK hin0 hj hP1 hD1 (fun _ => rfl) (fun _ => rfl) eo ⟨fun q1 q2 => ?_, fun q1 => ⟨j, t, cA, ?_, ?_, ?_⟩⟩
  · have q3 : xb_k h a < 100 := q2
    omega
  · show _ = some (a, Sum.inl (cA, xb_n h a, xb_el _ a (xb_k h a)))
    rw [hk, List.getElem?_set_self (List.getElem?_eq_some_iff.mp hj).1]
    simp only [xb_el, ev]
    rfl
  · show _ = some (cA, xb_ty (xb_k h a))
    rw [hk]
    exact ht
  · show xb_fit (xb_k h a) _
    rw [hk]
    rw [ev]
    refine ⟨fun _ i => ?_, fun h9 => (by cases h9)⟩
    simp only [va_cpy]
    by_cases h9 : dp.toNatClampNeg ≤ i ∧ i < dp.toNatClampNeg + n.toNatClampNeg
    · rw [if_pos h9]; exact hf0.1 rfl _
    · rw [if_neg h9]; exact hf.1 rfl i
theorem xb_cast_b (hexec : p.tables.exec = Jvm.exec) (hb : c.code = cc) {own : String} {index : Nat} (hown : s.vm.findClass own = some m.cls) (hlink : (Cond.classLink own index "[B").before args s = true) (hR : xb_R D A h s H) (hk : xb_k h a = 100) (hdg : decode cc pc = .ok (.checkcast index, 3))
    (kk : W p l e R s m args below meth c H locs cells slots Q (F0 m (pc + 3) ls (.ref a :: rest))) : W p l e R s m args below meth c H locs cells slots Q (F0 m pc ls (.ref a :: rest)) := by
  obtain ⟨ws, tys, j, t, cA, hP, hD, hK, hin0, hj, ht, hf⟩ := hR.arr hk (by decide)
  exact va_castA (nm := "[B") hexec hb hown hlink hP j hj (hK.2 t _ ht).2 hdg kk
theorem xb_clone_l (hexec : p.tables.exec = Jvm.exec) (hb : c.code = cc) (hml : c.maxLocals = ls.size) {own : String} {index : Nat} (hown : s.vm.findClass own = some m.cls)
    (hlink : (Cond.methodLink own index ⟨"[J", "clone", "()Ljava/lang/Object;"⟩).before args s = true) (hsame : (Cond.sameMethod "[J" "java/lang/Object" "clone" "()Ljava/lang/Object;").before args s = true)
    (hnat : (Cond.native ⟨"java/lang/Object", "clone", "()Ljava/lang/Object;"⟩).before args s = true) (hinst : (Cond.instanceMethod ⟨"java/lang/Object", "clone", "()Ljava/lang/Object;"⟩).before args s = true)
    (hsel : (Cond.selects "[J" ⟨"[J", "clone", "()Ljava/lang/Object;"⟩ ⟨"java/lang/Object", "clone", "()Ljava/lang/Object;"⟩).before args s = true) (hcl : va_Nw (.castable "[J" "java/lang/Cloneable") s)
    (hR : xb_R D A h s H) (hS : va_S A H0 H locs) (hA : ∀ q, H0.size ≤ q → A q) (hk : xb_k h a = 103) (hframes : 1 ≤ R.frames) (hlocals : (rest.map fun v => v.category).sum + 14 ≤ R.locals) (hcells : cells + 1 ≤ R.cells) (hslots : slots + xb_n h a ≤ R.slots) (hdg : decode cc pc = .ok (.invokevirtual index, 3))
    (kk : ∀ (q : Nat) (H1 : Heap), xb_k h q = 0 → xb_R D A (xb_La (xb_new h q 103 (xb_n h a)) q (xb_l h a)) s H1 → va_S A H0 H1 locs → W p l e R s m args below meth c H1 locs (cells + 1) (slots + xb_n h a) Q (F0 m (pc + 3) ls (.ref q :: rest))) : W p l e R s m args below meth c H locs cells slots Q (F0 m pc ls (.ref a :: rest)) := by
  obtain ⟨ws, tys, j, t, cA, hP, hD, hK, hin0, hj, ht, hf⟩ := hR.arr hk (by decide)
  have hra : s.vm.findClass "[J" = some cA := (hK.2 t _ ht).2
  refine va_clone (ad := "[J") hexec hb hml hown hlink hsame hnat hinst hsel hcl hK hP hD hS hA j t hj ht hra (fun i v hv => ?_) hframes hlocals hcells hslots hdg (fun q H1 hK1 hP1 hD1 hS1 => ?_)
  · have h1 : (vp_cell cA (xb_n h a, xb_el h a 103)).slots[i]? = if i < xb_n h a then some (.long (xb_l h a i)) else none := by
      by_cases h9 : i < xb_n h a <;> simp [vp_cell, xb_el, arrV, h9]
    rw [h1] at hv
    by_cases h9 : i < xb_n h a
    · rw [if_pos h9] at hv
      cases hv
      exact rfl
    · rw [if_neg h9] at hv
      cases hv
  · have nn := xb_nLa h q 103 (xb_n h a) (xb_l h a)
    have key := xb_R.pushG (h' := xb_La (xb_new h q 103 (xb_n h a)) q (xb_l h a)) hin0 hK1 hP1 hD1 nn.1 ⟨fun q1 q2 => ?_, fun q1 => ⟨ws.length, tys.length, cA, ?_, ?_, ?_⟩⟩
    · exact kk q H1 key.1 key.2 hS1
    · rw [nn.2.1] at q2
      omega
    · rw [nn.2.1, nn.2.2.1]
      simp [xb_el, nn.2.2.2]
    · rw [nn.2.1]
      simp [xb_ty]
    · rw [nn.2.1]
      exact ⟨fun h9 => (by cases h9), fun h9 => (by cases h9)⟩
theorem xb_copy_l (hexec : p.tables.exec = Jvm.exec) (hb : c.code = cc) (hml : c.maxLocals = ls.size) {own : String} {index : Nat} (hown : s.vm.findClass own = some m.cls) (hlink : (Cond.methodLink own index arraycopyName).before args s = true) (hnat : (Cond.native arraycopyName).before args s = true) (hstat : (Cond.static arraycopyName).before args s = true) (hini : (Cond.initialized "java/lang/System").before args s = true)
    (hR : xb_R D A h s H) (hS : va_S A H0 H locs) {a0 : Nat} (hk0 : xb_k h a0 = 103) (hk : xb_k h a = 103) {sp dp n : Int32} (h1 : ¬ sp < 0) (h2 : ¬ dp < 0) (h3 : ¬ n < 0) (h4 : sp.toNatClampNeg + n.toNatClampNeg ≤ xb_n h a0) (h5 : dp.toNatClampNeg + n.toNatClampNeg ≤ xb_n h a)
    (hframes : 1 ≤ R.frames) (hlocals : (rest.map fun v => v.category).sum + (nativeFrameWords "java/lang/System" "arraycopy" 5 + 11) ≤ R.locals) (hdg : decode cc pc = .ok (.invokestatic index, 3))
    (kk : ∀ (H1 : Heap) (locs1 : List Loc), xb_R D A (xb_La h a (va_cpy (xb_l h a0) (xb_l h a) sp.toNatClampNeg dp.toNatClampNeg n.toNatClampNeg)) s H1 → va_S A H0 H1 locs1 → W p l e R s m args below meth c H1 locs1 cells slots Q (F0 m (pc + 3) ls rest)) : W p l e R s m args below meth c H locs cells slots Q (F0 m pc ls (.int n :: .int dp :: .ref a :: .int sp :: .ref a0 :: rest)) := by
  obtain ⟨ws, tys, j, t, cA, hP, hD, hK, hin0, hj, ht, hf⟩ := hR.arr hk (by decide)
  obtain ⟨j0, t0, c0, hj0, ht0, hf0⟩ := (hin0 a0).2 (by omega)
  rw [hk0] at hj0 ht0 hf0
  have gf : ∀ i, fits .long (.long (xb_l h a0 i)) = true := fun _ => rfl
  have eo : ∀ b, b ≠ a → xb_i (xb_La h a (va_cpy (xb_l h a0) (xb_l h a) sp.toNatClampNeg dp.toNatClampNeg n.toNatClampNeg)) b = xb_i h b ∧ xb_l (xb_La h a (va_cpy (xb_l h a0) (xb_l h a) sp.toNatClampNeg dp.toNatClampNeg n.toNatClampNeg)) b = xb_l h b ∧ xb_r (xb_La h a (va_cpy (xb_l h a0) (xb_l h a) sp.toNatClampNeg dp.toNatClampNeg n.toNatClampNeg)) b = xb_r h b := fun b hb => ⟨rfl, xb_up_n _ _ hb, rfl⟩
  have ev : xb_l (xb_La h a (va_cpy (xb_l h a0) (xb_l h a) sp.toNatClampNeg dp.toNatClampNeg n.toNatClampNeg)) a = va_cpy (xb_l h a0) (xb_l h a) sp.toNatClampNeg dp.toNatClampNeg n.toNatClampNeg := xb_up_s _ _ _
  refine va_copyl hexec hb hml hown hlink hnat hstat hini hK hP hD hS j0 j t0 t hj0 hj ht0 ht rfl h1 h2 h3 h4 h5 (fun i _ => gf _) hframes hlocals hdg (fun H1 locs1 hP1 hD1 hS1 => kk H1 locs1 ?_ hS1)
  refine xb_R.set hK hin0 hj hP1 hD1 (fun _ => rfl) (fun _ => rfl) eo ⟨fun q1 q2 => ?_, fun q1 => ⟨j, t, cA, ?_, ?_, ?_⟩⟩
  · have q3 : xb_k h a < 100 := q2
    omega
  · show _ = some (a, Sum.inl (cA, xb_n h a, xb_el _ a (xb_k h a)))
    rw [hk, List.getElem?_set_self (List.getElem?_eq_some_iff.mp hj).1]
    simp only [xb_el, ev]
    rfl
  · show _ = some (cA, xb_ty (xb_k h a))
    rw [hk]
    exact ht
  · show xb_fit (xb_k h a) _
    rw [hk]
    exact ⟨fun h9 => (by cases h9), fun h9 => (by cases h9)⟩
theorem xb_cast_l (hexec : p.tables.exec = Jvm.exec) (hb : c.code = cc) {own : String} {index : Nat} (hown : s.vm.findClass own = some m.cls) (hlink : (Cond.classLink own index "[J").before args s = true) (hR : xb_R D A h s H) (hk : xb_k h a = 103) (hdg : decode cc pc = .ok (.checkcast index, 3))
    (kk : W p l e R s m args below meth c H locs cells slots Q (F0 m (pc + 3) ls (.ref a :: rest))) : W p l e R s m args below meth c H locs cells slots Q (F0 m pc ls (.ref a :: rest)) := by
  obtain ⟨ws, tys, j, t, cA, hP, hD, hK, hin0, hj, ht, hf⟩ := hR.arr hk (by decide)
  exact va_castA (nm := "[J") hexec hb hown hlink hP j hj (hK.2 t _ ht).2 hdg kk
theorem xb_newo (hexec : p.tables.exec = Jvm.exec) (hb : c.code = cc) {own C : String} {T : u_T} {N index : Nat} {Ts : List Cond} (ci : Nat) (hts : ∀ w ∈ Ts, w.before args s = true) (hfin : ∀ w ∈ u_ws C T N, w ∈ Ts) (ty : Nat → FieldType) (hty : ∀ k, k < N → parseFieldDescriptor (T k).2.2.1 = some (ty k)) (hown : s.vm.findClass own = some m.cls) (hcl : (Cond.classLink own index C).before args s = true) (hinst : (Cond.instantiable C N).before args s = true) (hini : (Cond.initialized C).before args s = true)
    (hR : xb_R D A h s H) (hS : va_S A H0 H locs) (hA : ∀ q, H0.size ≤ q → A q) (hci : ci < 99) (hc : xcm[ci]? = some (C, T, N)) (hdf : ∀ j, j < N → ((xb_ks ci)[j]?).map xb_df = some (defaultValue (ty j))) (hcells : cells + 1 ≤ R.cells) (hslots : slots + N ≤ R.slots) (hdg : decode cc pc = .ok (.new index, 3))
    (kk : ∀ (q : Nat) (H1 : Heap), xb_k h q = 0 → xb_R D A (xb_new h q (ci + 1) 0) s H1 → va_S A H0 H1 locs → W p l e R s m args below meth c H1 locs (cells + 1) (slots + N) Q (F0 m (pc + 3) ls (.ref q :: rest))) : W p l e R s m args below meth c H locs cells slots Q (F0 m pc ls rest) := by
  obtain ⟨ws, tys, hP, hD, hK, hin⟩ := hR
  refine va_new (ci := ci) (fs := xb_fs (xb_new h 0 (ci + 1) 0) 0 0 (xb_ks ci)) hexec hb hts hfin ty hty hown hcl hinst hini hK hP hD hS hA hc (fun j hj => ?_) hcells hslots hdg (fun q H1 hP1 hD1 hS1 => ?_)
  · obtain ⟨d, h1, h2⟩ := Option.map_eq_some_iff.mp (hdf j hj)
    rw [← h2, xb_fs_new h 0 (ci + 1) 0 (xb_ks ci) 0 j d h1]
  · have e0 : xb_fs (xb_new h 0 (ci + 1) 0) 0 0 (xb_ks ci) = xb_fs (xb_new h q (ci + 1) 0) q 0 (xb_ks ci) := xb_fs_new2 _ _ _ _ _ _ _ _ _ _
    rw [e0] at hP1 hD1
    have hK1 : va_K D xcm (tys ++ []) s := by rw [List.append_nil]; exact hK
    have key := xb_R.push (kd := ci + 1) (n := 0) hin hK1 hP1 hD1 ⟨fun q1 q2 => ⟨ws.length, ?_⟩, fun q1 => ?_⟩
    · exact kk q H1 key.1 key.2 hS1
    · rw [show xb_k (xb_new h q (ci + 1) 0) q = ci + 1 from xb_up_s _ _ _]
      simp
    · rw [show xb_k (xb_new h q (ci + 1) 0) q = ci + 1 from xb_up_s _ _ _] at q1
      omega
end XBA
