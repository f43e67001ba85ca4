-- the world: functions, variables and types by number
theorem sp_sameBytes2 {h : xb_H} {b1 b2 : Nat} {x1 x3 x4 : Int32} {Qr : Int32 → xb_H → Prop} (k1 : xb_k h b1 = 100) (k2 : xb_k h b2 = 100) (h1 : 0 ≤ x1.toInt) (h3 : 0 ≤ x3.toInt) (h4 : 0 ≤ x4.toInt) (l1 : x1.toInt + x4.toInt ≤ xb_n h b1) (l2 : x3.toInt + x4.toInt ≤ xb_n h b2) (m1 : xb_n h b1 ≤ 1000000000) (m2 : xb_n h b2 ≤ 1000000000)
    (hQ : ∀ r : Int32, (r = 0 ∧ ¬ ∀ j : Nat, (j : Int) < x4.toInt → xb_i h b1 (x1.toInt.toNat + j) = xb_i h b2 (x3.toInt.toNat + j)) ∨ (r = 1 ∧ ∀ j : Nat, (j : Int) < x4.toInt → xb_i h b1 (x1.toInt.toNat + j) = xb_i h b2 (x3.toInt.toNat + j)) → Qr r h) : w_StackModule_sameBytes b1 x1 b2 x3 x4 h Qr := by
  have key : ∀ (m : Nat) (x5 : Int32), 0 ≤ x5.toInt → x5.toInt ≤ x4.toInt → x4.toInt - x5.toInt ≤ m → (∀ j : Nat, (j : Int) < x5.toInt → xb_i h b1 (x1.toInt.toNat + j) = xb_i h b2 (x3.toInt.toNat + j)) → w_StackModule_sameBytes_L3 Qr (m + 1) b1 x1 b2 x3 x4 x5 h := by
    intro m
    induction m with
    | zero =>
      intro x5 g1 g0 g2 g3
      unfold w_StackModule_sameBytes_L3
      refine ⟨fun e => hQ 1 (.inr ⟨rfl, fun j hj => g3 j (by omega)⟩), fun e => ?_⟩
      rw [z_le] at e
      omega
    | succ m ih =>
      intro x5 g1 g0 g2 g3
      unfold w_StackModule_sameBytes_L3
      refine ⟨fun e => hQ 1 (.inr ⟨rfl, fun j hj => g3 j (by rw [z_le] at e; omega)⟩), fun e => ?_⟩
      rw [z_le] at e
      have r := z_rg x4
      have e5 : (x5 + 1).toInt = x5.toInt + 1 := by rw [z_add]; simp only [Int32.reduceToInt]; omega
      have e6 : (x1 + x5).toInt = x1.toInt + x5.toInt := by rw [z_add]; omega
      have e7 : (x3 + x5).toInt = x3.toInt + x5.toInt := by rw [z_add]; omega
      refine ⟨k1, by rw [z_in, e6]; omega, k2, by rw [z_in, e7]; omega, fun e9 => ih (x5 + 1) (by omega) (by omega) (by omega) (fun j hj => ?_), fun e9 => hQ 0 (.inl ⟨rfl, fun h9 => e9 ?_⟩)⟩
      rotate_left
      · have h8 := h9 x5.toInt.toNat (by omega)
        rw [z_cl, z_cl, e6, e7, show (x1.toInt + x5.toInt).toNat = x1.toInt.toNat + x5.toInt.toNat by omega, show (x3.toInt + x5.toInt).toNat = x3.toInt.toNat + x5.toInt.toNat by omega]
        exact h8
      by_cases hj2 : (j : Int) < x5.toInt
      · exact g3 j hj2
      · rw [z_cl, z_cl, e6, e7] at e9
        have q1 : x1.toInt.toNat + j = (x1.toInt + x5.toInt).toNat := by omega
        have q2 : x3.toInt.toNat + j = (x3.toInt + x5.toInt).toNat := by omega
        rw [q1, q2]
        exact e9
  unfold w_StackModule_sameBytes
  exact ⟨x4.toInt.toNat + 1, key _ 0 (by simp) (by simp only [Int32.reduceToInt]; omega) (by simp only [Int32.reduceToInt]; omega) (fun j hj => by simp only [Int32.reduceToInt] at hj; omega)⟩
theorem z_addsub {a b c : Int32} {x y z : Nat} (ha : a.toInt = x) (hb : b.toInt = y) (hc : c.toInt = z) (h1 : x ≤ 1000000) (h2 : y ≤ 1000000) (h3 : z ≤ x + y) : (a + b - c).toInt = (x + y - z : Nat) := by
  have e1 : (a + b).toInt = (x + y : Nat) := by rw [z_add, ha, hb]; omega
  rw [z_sub, e1, hc]
  omega
theorem z_subadd {a b c : Int32} {x y z : Nat} (ha : a.toInt = x) (hb : b.toInt = y) (hc : c.toInt = z) (h1 : x ≤ 1000000) (h2 : z ≤ 1000000) (h3 : y ≤ x) : (a - b + c).toInt = (x - y + z : Nat) := by
  have e1 : (a - b).toInt = (x - y : Nat) := by rw [z_sub, ha, hb]; omega
  rw [z_add, e1, hc]
  omega
theorem z_row1 {x c : Int32} {f : Nat} (hx : x.toInt = f) (hc : c.toInt = 1) (hf : f ≤ 8388608) : (x * c + 0).toInt = f := by
  have e1 : (x * c).toInt = f := by
    rw [z_mul, hx, hc]
    omega
  have e0 : (0 : Int32).toInt = 0 := rfl
  rw [z_add, e1, e0]
  omega
theorem z_l2i {y : Int64} {v : Nat} (h : y.toInt = v) (hv : v ≤ 8388608) : (y.toInt32).toInt = v := by
  rw [z_of64, h]
  omega
theorem z_l2n {y : Int64} {v : Nat} (h : y.toInt = v) (hv : v ≤ 8388608) : (y.toInt32).toNatClampNeg = v := by
  rw [z_cl, z_l2i h hv, Int.toNat_natCast]
theorem ptl_eq {cb cb' : Nat → Int32} {pa pa' : Nat} : ∀ P : Nat, (∀ j, j < P → cb (pa + j) = cb' (pa' + j)) → ptl cb pa P = ptl cb' pa' P
  | 0, _ => rfl
  | P + 1, h => by
    show _ :: _ = _ :: _
    rw [h P (by omega), ptl_eq P (fun j hj => h j (by omega))]
theorem ptl_ix_ {cb cb' : Nat → Int32} {pa pa' : Nat} : ∀ P : Nat, ptl cb pa P = ptl cb' pa' P → ∀ j, j < P → cb (pa + j) = cb' (pa' + j)
  | 0, _, j, hj => by omega
  | P + 1, h, j, hj => by
    have h' : (cb (pa + P)).toInt :: ptl cb pa P = (cb' (pa' + P)).toInt :: ptl cb' pa' P := h
    obtain ⟨e1, e2⟩ := List.cons.inj h'
    by_cases e : j = P
    · rw [e]
      exact z_eq.mpr e1
    · exact ptl_ix_ P e2 j (by omega)
theorem ptl_ln {cb : Nat → Int32} {pa : Nat} : ∀ P : Nat, (ptl cb pa P).length = P
  | 0 => rfl
  | P + 1 => by
    show (ptl cb pa P).length + 1 = P + 1
    rw [ptl_ln P]
/-- the function, the variable that an instance means by a number -/
def fnI (h : xb_H) (W : wD) (i k : Nat) : Nat := if k < ni (wd W i) 0 then (xb_l h ((xb_r h (wia W i) 2).getD 0) k).toInt.toNat else wff W i + (k - ni (wd W i) 0)
def vnI (h : xb_H) (W : wD) (i k : Nat) : Nat := if k < ni (wd W i) 3 then (xb_l h ((xb_r h (wia W i) 3).getD 0) k).toInt.toNat else wfv W i + (k - ni (wd W i) 3)
section W2
variable {own ad : Nat → Nat} {h : xb_H} {W : wD} {σ : Nat}
/-- what a module's line of a type holds -/
theorem mo.ty {md t : Nat} {d : mD} (hm : mo own h md d) (ht : t < dn d 0 / 5) : 5 * t + 5 ≤ dn d 0 ∧ 0 ≤ (dvs d 0 (5 * t + 1)).toInt ∧ 0 ≤ (dvs d 0 (5 * t + 2)).toInt ∧ (dvs d 0 (5 * t + 1)).toInt + (dvs d 0 (5 * t + 2)).toInt ≤ dN d ∧ ((dvs d 0 (5 * t + 4)).toInt = 64 ∨ 124 ≤ (dvs d 0 (5 * t + 4)).toInt ∧ (dvs d 0 (5 * t + 4)).toInt ≤ 127) ∧ dN d ≤ 65536 := by
  have hv := hm.2.1
  obtain ⟨⟨h1, h2, h3, h4, h5, h6, h7, h8, h9, h10⟩, h11⟩ := hv.1.1.at (by omega) ht
  dsimp only at h1 h2 h3 h4 h5 h6 h7 h8 h9 h10
  refine ⟨h11, h3, h4, h5, ?_, hv.2.2.2.2.2.2.2.2.2.2.2.2.1⟩
  by_cases h : (dvs d 0 (5 * t + 3)).toInt = 0
  · exact .inl (h8 h)
  · exact .inr (h9 (by omega))
theorem mo.fn {md k : Nat} {d : mD} (hm : mo own h md d) (hk : k < nf d) : 2 * k + 2 ≤ dn d 2 ∧ 0 ≤ (dvs d 2 (2 * k + 1)).toInt ∧ (dvs d 2 (2 * k + 1)).toInt.toNat < dn d 0 / 5 ∧ dn d 0 ≤ 131072 ∧ dn d 2 ≤ 131072 := by
  have hv := hm.2.1
  obtain ⟨⟨m, h1⟩, h2⟩ := hv.2.2.1
  have h3 := h2 k hk
  have h4 := hv.2.2.2.2.2.2.2.2.2.2.2.1
  have h5 := hv.2.2.2.2.2.2.2.2.2.2.2.2.1
  have h6 := h4 0 (by omega)
  have h7 := h4 2 (by omega)
  unfold nf at hk
  exact ⟨by omega, h3.1, by omega, by omega, by omega⟩
theorem mo_typeOf {md k : Nat} {d : mD} {x : Int32} {Qr : Int32 → xb_H → Prop} (hm : mo own h md d) (hx : x.toInt = k) (hk : k < nf d) (hQ : ∀ r : Int32, r.toInt = (dvs d 2 (2 * k + 1)).toInt.toNat → Qr r h) : w_StackModule_typeOf md x h Qr := by
  obtain ⟨h1, h2, h3, h4, h5⟩ := hm.fn hk
  exact md_typeOf hm.1 hx h1 h2 (by omega) (fun r hr => hQ r (by omega))
theorem mo_sameType {m1 m2 t1 t2 : Nat} {d1 d2 : mD} {x1 x3 : Int32} {Qr : Int32 → xb_H → Prop} (hm1 : mo own h m1 d1) (hm2 : mo own h m2 d2) (hx1 : x1.toInt = t1) (hx3 : x3.toInt = t2) (ht1 : t1 < dn d1 0 / 5) (ht2 : t2 < dn d2 0 / 5)
    (hQ : ∀ r : Int32, (r = 0 ∧ tyf d1 t1 ≠ tyf d2 t2) ∨ (r = 1 ∧ tyf d1 t1 = tyf d2 t2) → Qr r h) : w_StackModule_sameType m1 x1 m2 x3 h Qr := by
  obtain ⟨a1, a2, a3, a4, a5, a6⟩ := hm1.ty ht1
  obtain ⟨b1, b2, b3, b4, b5, b6⟩ := hm2.ty ht2
  have M1 := hm1.1
  have M2 := hm2.1
  have tl : tyf d1 t1 = tyf d2 t2 → (dvs d1 0 (5 * t1 + 2)).toInt = (dvs d2 0 (5 * t2 + 2)).toInt ∧ (dvs d1 0 (5 * t1 + 4)).toInt = (dvs d2 0 (5 * t2 + 4)).toInt := fun h9 => by
    unfold tyf at h9
    rw [Prod.mk.injEq] at h9
    have h8 := congrArg List.length h9.1
    rw [ptl_ln, ptl_ln] at h8
    exact ⟨by omega, h9.2⟩
  unfold w_StackModule_sameType w_StackModule_sameType_L46
  refine ⟨M1.k, _, M1.row (k := 0) (by omega), M1.krow (by omega), md_at (c := 5) M1 (i := t1) (j := 2) (by omega) rfl hx1 rfl (by omega) a1 (fun r5 e5 _ => ⟨M2.k, _, M2.row (k := 0) (by omega), M2.krow (by omega), md_at (c := 5) M2 (i := t2) (j := 2) (by omega) rfl hx3 rfl (by omega) b1 (fun r10 e10 _ => ⟨fun e => hQ 0 (.inl ⟨rfl, fun h9 => e (z_eq.mpr (by have := (tl h9).1; omega))⟩), fun e => ⟨_, M1.row (k := 0) (by omega), M1.krow (by omega), md_at (c := 5) M1 (i := t1) (j := 4) (by omega) rfl hx1 rfl (by omega) a1 (fun r15 e15 _ => ⟨_, M2.row (k := 0) (by omega), M2.krow (by omega), md_at (c := 5) M2 (i := t2) (j := 4) (by omega) rfl hx3 rfl (by omega) b1 (fun r19 e19 _ => ⟨fun e2 => ⟨_, M1.row (k := 0) (by omega), M1.krow (by omega), md_at (c := 5) M1 (i := t1) (j := 1) (by omega) rfl hx1 rfl (by omega) a1 (fun r24 e24 _ => ⟨_, M1.1.2.1, _, M2.1.2.1, _, M2.row (k := 0) (by omega), M2.krow (by omega), md_at (c := 5) M2 (i := t2) (j := 1) (by omega) rfl hx3 rfl (by omega) b1 (fun r30 e30 _ => ?_)⟩)⟩, fun e2 => hQ 0 (.inl ⟨rfl, fun h9 => e2 (z_eq.mpr (by have := (tl h9).2; omega))⟩)⟩)⟩)⟩⟩)⟩)⟩
  have f5 : r5.toInt = (dvs d1 0 (5 * t1 + 2)).toInt := by omega
  have f10 : r10.toInt = (dvs d2 0 (5 * t2 + 2)).toInt := by omega
  have f15 : r15.toInt = (dvs d1 0 (5 * t1 + 4)).toInt := by omega
  have f19 : r19.toInt = (dvs d2 0 (5 * t2 + 4)).toInt := by omega
  have f24 : r24.toInt = (dvs d1 0 (5 * t1 + 1)).toInt := by omega
  have f30 : r30.toInt = (dvs d2 0 (5 * t2 + 1)).toInt := by omega
  rw [z_eq] at e e2
  refine sp_sameBytes2 M1.1.2.2.1 M2.1.2.2.1 (by omega) (by omega) (by omega) (by rw [M1.1.2.2.2.1]; omega) (by rw [M2.1.2.2.2.1]; omega) (by rw [M1.1.2.2.2.1]; omega) (by rw [M2.1.2.2.2.1]; omega) (fun r hr _ => ?_)
  rcases hr with hr | ⟨hr, hb⟩
  · obtain ⟨hr, hb⟩ := hr
    refine ⟨.inl hr, hQ r (.inl ⟨hr, fun h9 => hb (fun j hj => ?_)⟩)⟩
    rw [M1.1.2.2.2.2, M2.1.2.2.2.2, f24, f30]
    unfold tyf at h9
    rw [Prod.mk.injEq] at h9
    have e3 : (dvs d2 0 (5 * t2 + 2)).toInt.toNat = (dvs d1 0 (5 * t1 + 2)).toInt.toNat := by omega
    rw [e3] at h9
    exact ptl_ix_ _ h9.1 j (by omega)
  · refine ⟨.inr hr, hQ r (.inr ⟨hr, ?_⟩)⟩
    rw [M1.1.2.2.2.2, M2.1.2.2.2.2, f24, f30] at hb
    unfold tyf
    have e3 : (dvs d2 0 (5 * t2 + 2)).toInt.toNat = (dvs d1 0 (5 * t1 + 2)).toInt.toNat := by omega
    rw [e3, ptl_eq _ (fun j hj => hb j (by omega)), show (dvs d1 0 (5 * t1 + 4)).toInt = (dvs d2 0 (5 * t2 + 4)).toInt by omega]
theorem iO.nf0 {i : Nat} (hi : iO own ad h W i) : ni (wd W i) 0 ≤ nf (wd W i) ∧ ni (wd W i) 3 ≤ nvr (wd W i) ∧ nf (wd W i) ≤ 65536 ∧ nvr (wd W i) ≤ 65536 ∧ (∀ κ, κ < 4 → (div_ (wd W i) κ).toInt = ni (wd W i) κ) := by
  have hv := hi.1.2.2.2.2.2.1
  obtain ⟨q0, q1, q2, q3⟩ := hv.2.1.2.2
  have hc := hv.2.1.2.1
  have h4 := hv.2.2.2.2.2.2.2.2.2.2.2.1
  have h5 := hv.2.2.2.2.2.2.2.2.2.2.2.2.1
  have h6 := h4 2 (by omega)
  have h7 := h4 5 (by omega)
  unfold ni nf nvr
  refine ⟨by omega, by omega, by omega, by omega, fun κ hκ => ?_⟩
  have := hc κ hκ
  omega
theorem iO_functionId {i k : Nat} {x : Int32} {Qr : Int32 → xb_H → Prop} (hi : iO own ad h W i) (hno : wno W ≤ 8192) (hx : x.toInt = k) (hk : k < nf (wd W i)) (hQ : ∀ (r : Int32) (f : Nat), r.toInt = f → vf W f → fT W f = ftm (wd W i) k ∧ f = fnI h W i k → Qr r h) : w_Instance_functionId (wia W i) x h Qr := by
  obtain ⟨n1, n2, n3, n4, n5⟩ := hi.nf0
  obtain ⟨⟨a1, a2, a3, a4, a5⟩, ⟨fa, b1, b2, b3, b4, b5⟩, -, ⟨d1, d2, d3⟩, -⟩ := id hi
  have hI := z_nI (n := ni (wd W i) 0) (by omega)
  unfold w_Instance_functionId w_Instance_functionId_L29
  refine ⟨a1, fa, b1, b2, fun v4 e4 => ⟨fun e => ?_, fun e => ⟨fa, b1, b2, ?_, ?_⟩⟩⟩
  · rw [e4, b4] at e ⊢
    rw [z_le, hI, hx] at e
    have hf := d3 (k - ni (wd W i) 0) (by omega)
    refine hQ _ (wff W i + (k - ni (wd W i) 0)) ?_ (.inl (by omega)) ?_
    · rw [z_addsub d1 hx hI (by omega) (by omega) (by omega)]
      omega
    · refine ⟨?_, (if_neg (by omega)).symm⟩
      unfold fT
      rw [if_neg (by omega), hf]
      congr 1
      omega
  · rw [e4, b4, z_le, hI, hx] at e
    rw [z_in, hx, b4]
    omega
  · rw [e4, b4, z_le, hI, hx] at e
    obtain ⟨f, c1, c2, c3⟩ := b5 k (by omega)
    refine hQ _ f ?_ c2 ⟨c3, ?_⟩
    rotate_left
    · unfold fnI
      rw [if_pos (by omega), b1, Option.getD_some, c1, Int.toNat_natCast]
    have hfb : f < 8196 := by
      rcases c2 with c2 | c2 <;> omega
    rw [z_cl, hx, Int.toNat_natCast, z_of64, c1]
    omega
theorem iO_variableId {i k : Nat} {x : Int32} {Qr : Int32 → xb_H → Prop} (hi : iO own ad h W i) (hnv : wnv W ≤ 4096) (hx : x.toInt = k) (hk : k < nvr (wd W i)) (hQ : ∀ (r : Int32) (v : Nat), r.toInt = v → v < wnv W → wvt W v = (dvs (wd W i) 5 (4 * k + 1)).toInt ∧ v = vnI h W i k → Qr r h) : w_Instance_variableId (wia W i) x h Qr := by
  obtain ⟨n1, n2, n3, n4, n5⟩ := hi.nf0
  obtain ⟨⟨a1, a2, a3, a4, a5⟩, -, ⟨va, b1, b2, b3, b4, b5⟩, -, ⟨d1, d2, d3⟩, -⟩ := id hi
  have hI := z_nI (n := ni (wd W i) 3) (by omega)
  unfold w_Instance_variableId w_Instance_variableId_L29
  refine ⟨a1, va, b1, b2, fun v4 e4 => ⟨fun e => ?_, fun e => ⟨va, b1, b2, ?_, ?_⟩⟩⟩
  · rw [e4, b4] at e ⊢
    rw [z_le, hI, hx] at e
    have hf := d3 (k - ni (wd W i) 3) (by omega)
    refine hQ _ (wfv W i + (k - ni (wd W i) 3)) ?_ (by omega) ?_
    · rw [z_addsub d1 hx hI (by omega) (by omega) (by omega)]
      omega
    · exact ⟨by rw [hf, show ni (wd W i) 3 + (k - ni (wd W i) 3) = k by omega], (if_neg (by omega)).symm⟩
  · rw [e4, b4, z_le, hI, hx] at e
    rw [z_in, hx, b4]
    omega
  · rw [e4, b4, z_le, hI, hx] at e
    obtain ⟨f, c1, c2, c3⟩ := b5 k (by omega)
    refine hQ _ f ?_ c2 ⟨c3, ?_⟩
    rotate_left
    · unfold vnI
      rw [if_pos (by omega), b1, Option.getD_some, c1, Int.toNat_natCast]
    rw [z_cl, hx, Int.toNat_natCast, z_of64, c1]
    omega
theorem iO_numberOf {i f : Nat} {x : Int32} {Qr : Int32 → xb_H → Prop} (hi : iO own ad h W i) (hno : wno W ≤ 8192) (hx : x.toInt = f) (h1 : wff W i ≤ f) (h2 : f < wff W i + (nf (wd W i) - ni (wd W i) 0)) (hQ : ∀ r : Int32, r.toInt = (f - wff W i + ni (wd W i) 0 : Nat) → Qr r h) : w_Instance_numberOf (wia W i) x h Qr := by
  obtain ⟨n1, n2, n3, n4, n5⟩ := hi.nf0
  obtain ⟨⟨a1, a2, a3, a4, a5⟩, ⟨fa, b1, b2, b3, b4, b5⟩, -, ⟨d1, d2, d3⟩, -⟩ := id hi
  have hI := z_nI (n := ni (wd W i) 0) (by omega)
  unfold w_Instance_numberOf
  refine ⟨a1, fa, b1, b2, hQ _ ?_⟩
  rw [b4, z_subadd hx d1 hI (by omega) (by omega) h1]
theorem wI_ownerOf {f : Nat} {x : Int32} {Qr : Nat → xb_H → Prop} (hB : cB own ad h) (hO : wO ad h W) (hL : wL own ad h W) (hx : x.toInt = f) (hf : f < wno W) (hQ : Qr (wia W (wfo W f)) h) : w_World_ownerOf (ad 14) x h Qr := by
  obtain ⟨o1, o2, o3⟩ := hO
  obtain ⟨l1, l2, l3, l4⟩ := hL
  obtain ⟨p1, p2, p3, p4⟩ := o3 f hf
  obtain ⟨b1, b2, b3, b4, b5, b6, b7, b8⟩ := o1
  have e1 : (x * xb_i h (ad 19) 2 + 0).toInt = f := z_row1 hx (by rw [b2]; rfl) (by omega)
  unfold w_World_ownerOf w_Row_at
  refine ⟨hB.k 14 (by omega), ad 18, hB.r (14, 0, 18) (by decide), ad 19, hB.r (14, 2, 19) (by decide), b1, b1, ad 20, b4, b5, by rw [z_in, e1]; omega, fun _ => ?_⟩
  have e2 : (Int64.toInt32 (xb_l h (ad 20) (x * xb_i h (ad 19) 2 + 0).toNatClampNeg)).toInt = wfo W f := by
    rw [z_cl, e1, Int.toNat_natCast, z_of64, p1]
    omega
  refine ⟨hB.k 18 (by omega), by rw [z_in, e2, l1]; omega, wia W (wfo W f), ?_, hQ⟩
  rw [z_cl, e2, Int.toNat_natCast]
  exact (l4 _ p2).1
/-- a function's type is the one that a module has under a number, if it fits -/
theorem wI_fits {f t md : Nat} {d : mD} {x1 x3 : Int32} {Qr : Int32 → xb_H → Prop} (hB : cB own ad h) (hO : wO ad h W) (hL : wL own ad h W) (hm : mo own h md d) (hx1 : x1.toInt = f) (hf : vf W f) (hx3 : x3.toInt = t) (ht : t < dn d 0 / 5) (hQ : ∀ r : Int32, (r = 0 ∧ fT W f ≠ tyf d t) ∨ (r = 1 ∧ fT W f = tyf d t) → Qr r h) : w_World_fits (ad 14) x1 md x3 h Qr := by
  have hno := hO.2.1
  have k14 : xb_k h (ad 14) = 7 := hB.k 14 (by omega)
  unfold w_World_fits w_World_fits_L45 w_World_fits_L46
  refine ⟨fun e => ⟨k14, ?_⟩, fun e => ?_⟩
  · rw [z_lt, hx1] at e
    simp only [Int32.reduceToInt] at e
    have hfo : f < wno W := by
      rcases hf with h9 | h9
      · exact h9
      · omega
    obtain ⟨p1, p2, p3, p4⟩ := hO.2.2 f hfo
    have hi := (hL.2.2.2 _ p2).2
    obtain ⟨n1, n2, n3, n4, n5⟩ := hi.nf0
    have hmo := hi.1.2.2.2.2
    refine wI_ownerOf hB hO hL hx1 hfo (fun _ => ⟨hi.1.1, _, hi.1.2.2.2.1, _, hi.1.2.2.2.1, iO_numberOf hi hno hx1 p3 p4 (fun r9 e9 _ => ⟨hmo.1.k, mo_typeOf hmo e9 (by omega) (fun r12 e12 _ => ⟨hmo.1.k, ?_⟩)⟩)⟩)
    obtain ⟨g1, g2, g3, -⟩ := hmo.fn (k := f - wff W (wfo W f) + ni (wd W (wfo W f)) 0) (by omega)
    refine mo_sameType hmo hm e12 hx3 g3 ht (fun r hr _ => ?_)
    rcases hr with hr | ⟨hr, hr2⟩
    · refine ⟨.inl hr.1, hQ r (.inl ⟨hr.1, ?_⟩)⟩
      unfold fT
      rw [if_neg (by omega)]
      exact hr.2
    · refine ⟨.inr hr, hQ r (.inr ⟨hr, ?_⟩)⟩
      unfold fT
      rw [if_neg (by omega)]
      exact hr2
  · rw [z_lt, hx1] at e
    simp only [Int32.reduceToInt] at e
    have hfo : 8192 ≤ f ∧ f < 8196 := by
      rcases hf with h9 | h9
      · omega
      · exact h9
    obtain ⟨a1, a2, a3, a4, a5, a6⟩ := hm.ty ht
    have hLt := hm.2.1.1.1
    have nf : ∀ P : Prop, (fT W f = tyf d t → P) → ¬ P → fT W f ≠ tyf d t := fun P h1 h2 h3 => h2 (h1 h3)
    have eft : fT W f = tyf d t → (dvs d 0 (5 * t + 2)).toInt = 1 ∧ (dvs d 0 (5 * t + 4)).toInt = 64 ∧ (dcb d (dvs d 0 (5 * t + 1)).toInt.toNat).toInt = 127 - ((f : Int) - 8192) := fun h9 => by
      unfold fT tyf at h9
      rw [if_pos hfo.1, Prod.mk.injEq] at h9
      have h8 := congrArg List.length h9.1
      rw [ptl_ln] at h8
      simp only [List.length_cons, List.length_nil] at h8
      have e1 : (dvs d 0 (5 * t + 2)).toInt.toNat = 1 := by omega
      rw [e1] at h9
      have h7 : [127 - ((f : Int) - 8192)] = [(dcb d ((dvs d 0 (5 * t + 1)).toInt.toNat + 0)).toInt] := h9.1
      rw [List.cons.injEq, Nat.add_zero] at h7
      exact ⟨by omega, h9.2.symm, h7.1.symm⟩
    refine ⟨hm.1.k, md_parameters hm.1 hLt hx3 ht (fun r18 e18 _ _ _ => ⟨fun e2 => ⟨.inl rfl, hQ 0 (.inl ⟨rfl, fun h9 => e2 ?_⟩)⟩, fun e2 => md_hasResult hm.1 hLt hx3 ht (fun r21 e21 _ => ⟨fun e3 => ⟨.inl rfl, hQ 0 (.inl ⟨rfl, fun h9 => e3 ?_⟩)⟩, fun e3 => ?_⟩)⟩)⟩
    · rw [z_eq, e18, (eft h9).1]
      rfl
    · rcases e21 with h8 | ⟨-, h8⟩
      · exact h8.1
      · exact absurd (eft h9).2.1 h8
    rw [z_eq, e18] at e2
    simp only [Int32.reduceToInt] at e2
    have e64 : (dvs d 0 (5 * t + 4)).toInt = 64 := by
      rcases e21 with ⟨-, h9⟩ | ⟨h9, -⟩
      · exact h9
      · rw [h9] at e3
        exact absurd e3 (by decide)
    refine md_parameterType (j := 0) hm.1 hLt hx3 ht rfl (by omega) (fun q hq g1 g2 _ => ⟨fun e4 => ⟨.inl rfl, hQ 0 (.inl ⟨rfl, fun h9 => e4 ?_⟩)⟩, fun e4 => ⟨.inr rfl, hQ 1 (.inr ⟨rfl, ?_⟩)⟩⟩)
    · have e5 : (127 - (x1 - 8192)).toInt = 127 - ((f : Int) - 8192) := by
        rw [z_sub, z_sub, hx1]
        simp only [Int32.reduceToInt]
        omega
      rw [z_eq, e5, ← (eft h9).2.2, show (dvs d 0 (5 * t + 1)).toInt.toNat = q by omega]
    have e5 : (127 - (x1 - 8192)).toInt = 127 - ((f : Int) - 8192) := by
      rw [z_sub, z_sub, hx1]
      simp only [Int32.reduceToInt]
      omega
    rw [z_eq, e5] at e4
    unfold fT tyf
    rw [if_pos hfo.1, e64, e2]
    have e6 : (dvs d 0 (5 * t + 1)).toInt.toNat = q := by omega
    rw [e6]
    show ([127 - ((f : Int) - 8192)], (64 : Int)) = ((dcb d (q + 0)).toInt :: [], 64)
    rw [Nat.add_zero, e4]
end W2
