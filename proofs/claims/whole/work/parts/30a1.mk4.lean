-- the reference's checker in a body: labels, parameters; numbers for the types
def gn (D : zM) (k : Nat) : Nat := if k = 0 then 5 * qt D 1 else if k = 2 then 2 * (iM D 0 + qt D 3) else if k = 3 then 3 * (iM D 1 + qt D 4) else if k = 4 then 3 * (iM D 2 + qt D 5) else if k = 5 then 4 * (iM D 3 + qt D 6) else 0
def gi (D : zM) (k j : Nat) : Int := if k = 0 then (if j % 5 = 0 then (qp D 1 (j / 5) : Int) else if j % 5 = 1 then (tPa D (j / 5) : Int) else if j % 5 = 2 then (tPn D (j / 5) : Int) else if j % 5 = 3 then (tRn D (j / 5) : Int) else tRt D (j / 5)) else if k = 2 then (if j % 2 = 1 then (fty D (j / 2) : Int) else 0) else if k = 5 then (if j % 4 = 1 then vty D (j / 4) else if j % 4 = 2 then vmu D (j / 4) else 0) else 0
def gv (D : zM) (k j : Nat) : Int64 := Int64.ofInt (gi D k j)
section MK4
variable {own : Nat → Nat} {mm m : Nat} {A : Nat → Nat} {h : xb_H} {F F' F2 : Nat → Nat → Int32} {v v' v2 cb : Nat → Int32} {D : zM} {cur ex : List Int} {fs r : List ckF} {f : ckF} {g : Int} {t : Nat}
theorem Z_ofI {x : Int} (h0 : -1000000 ≤ x) (h1 : x ≤ 1000000) : (Int64.ofInt x).toInt = x := by
  have : Int64.size = 18446744073709551616 := rfl
  rw [Int64.toInt_ofInt, this, Int.bmod_eq_of_le (by omega) (by omega)]
theorem mdR.tb (hR : mdR D) (ht : t < qt D 1) : tPa D t + tPn D t ≤ 12000 ∧ tRn D t ≤ 12000 ∧ qp D 1 t ≤ 12000 ∧ (tRt D t = 64 ∨ (124 ≤ tRt D t ∧ tRt D t ≤ 127)) ∧ (tRn D t = 0 → tRt D t = 64) ∧ (0 < tRn D t → 124 ≤ tRt D t ∧ tRt D t ≤ 127) := by
  obtain ⟨n, p2, k, c1, c2, c3, c4, c5, c6, c7, c8, c9, c10, c11⟩ := hR.ty ht
  have hE := hR.2.2.1
  have key : 0 < tRn D t → 124 ≤ tRt D t ∧ tRt D t ≤ 127 := fun h0 => by
    have := c8 p2 (Nat.le_refl _) (by omega)
    unfold tRt
    rw [if_neg (by omega), c6]
    rw [z_lt, z_lt] at this
    simp only [Int32.reduceToInt] at this
    omega
  have key0 : tRn D t = 0 → tRt D t = 64 := fun h0 => by unfold tRt; rw [if_pos h0]
  refine ⟨by omega, by omega, by omega, ?_, key0, key⟩
  rcases Nat.eq_zero_or_pos (tRn D t) with h0 | h0
  · exact .inl (key0 h0)
  · exact .inr (key h0)
theorem gv_0 (hR : mdR D) (ht : t < qt D 1) : (gv D 0 (5 * t)).toInt = qp D 1 t ∧ (gv D 0 (5 * t + 1)).toInt = tPa D t ∧ (gv D 0 (5 * t + 2)).toInt = tPn D t ∧ (gv D 0 (5 * t + 3)).toInt = tRn D t ∧ (gv D 0 (5 * t + 4)).toInt = tRt D t := by
  obtain ⟨b1, b2, b3, b4, -, -⟩ := hR.tb ht
  have m0 : (5 * t) % 5 = 0 ∧ (5 * t) / 5 = t := by omega
  have m1 : (5 * t + 1) % 5 = 1 ∧ (5 * t + 1) / 5 = t := by omega
  have m2 : (5 * t + 2) % 5 = 2 ∧ (5 * t + 2) / 5 = t := by omega
  have m3 : (5 * t + 3) % 5 = 3 ∧ (5 * t + 3) / 5 = t := by omega
  have m4 : (5 * t + 4) % 5 = 4 ∧ (5 * t + 4) / 5 = t := by omega
  unfold gv gi
  refine ⟨?_, ?_, ?_, ?_, ?_⟩
  · rw [if_pos rfl, m0.1, m0.2, if_pos rfl]; exact Z_ofI (by omega) (by omega)
  · rw [if_pos rfl, m1.1, m1.2, if_neg (by decide), if_pos rfl]; exact Z_ofI (by omega) (by omega)
  · rw [if_pos rfl, m2.1, m2.2, if_neg (by decide), if_neg (by decide), if_pos rfl]; exact Z_ofI (by omega) (by omega)
  · rw [if_pos rfl, m3.1, m3.2, if_neg (by decide), if_neg (by decide), if_neg (by decide), if_pos rfl]; exact Z_ofI (by omega) (by omega)
  · rw [if_pos rfl, m4.1, m4.2, if_neg (by decide), if_neg (by decide), if_neg (by decide), if_neg (by decide)]; exact Z_ofI (by omega) (by omega)
theorem gv_2 {i : Nat} (hf : fty D i < 100000) : (gv D 2 (2 * i + 1)).toInt = fty D i := by
  have m1 : (2 * i + 1) % 2 = 1 ∧ (2 * i + 1) / 2 = i := by omega
  unfold gv gi
  rw [if_neg (by decide), if_pos rfl, m1.1, m1.2, if_pos rfl]
  exact Z_ofI (by omega) (by omega)
theorem gv_5 {i : Nat} : (gv D 5 (4 * i + 1)).toInt = vty D i ∧ (gv D 5 (4 * i + 2)).toInt = vmu D i := by
  have m1 : (4 * i + 1) % 4 = 1 ∧ (4 * i + 1) / 4 = i := by omega
  have m2 : (4 * i + 2) % 4 = 2 ∧ (4 * i + 2) / 4 = i := by omega
  have r1 := ub_r (cb := qc D) (p := vpo D i)
  have r2 := ub_r (cb := qc D) (p := vpo D i + 1)
  unfold gv gi vty vmu
  refine ⟨?_, ?_⟩
  · rw [if_neg (by decide), if_neg (by decide), if_pos rfl, m1.1, m1.2, if_pos rfl]; exact Z_ofI (by omega) (by omega)
  · rw [if_neg (by decide), if_neg (by decide), if_pos rfl, m2.1, m2.2, if_neg (by decide), if_pos rfl]; exact Z_ofI (by omega) (by omega)
theorem ub_ty {p : Nat} (hby : -128 ≤ (cb p).toInt ∧ (cb p).toInt ≤ 127) (h1 : ¬ ub cb p < 124) (h2 : ¬ 127 < ub cb p) : ub cb p = cb p ∧ 124 ≤ (cb p).toInt ∧ (cb p).toInt ≤ 127 := by
  rw [z_lt] at h1 h2
  simp only [Int32.reduceToInt] at h1 h2
  have := ub_cb hby (by omega)
  rw [this] at h1 h2
  exact ⟨this, by omega, by omega⟩
/-- the lines of the types -/
theorem gv_L (hR : mdR D) : xr_L 5 (mp0 (qe D) (qc D)) (gn D 0) (gv D 0) := by
  refine ⟨qt D 1, rfl, fun i hi => ?_⟩
  obtain ⟨e0, e1, e2, e3, e4⟩ := gv_0 hR hi
  obtain ⟨b1, b2, b3, b4, b5, b6⟩ := hR.tb hi
  obtain ⟨n, p2, k, c1, c2, c3, c4, c5, c6, c7, c8, c9, c10, c11⟩ := hR.ty hi
  unfold mp0
  simp only [Nat.add_zero]
  rw [e0, e1, e2, e3, e4]
  refine ⟨by omega, by omega, by omega, by omega, by omega, by omega, by omega, fun h0 => b5 (by omega), fun h0 => b6 (by omega), fun j h1 h2 => ?_⟩
  have h3 := c3 j (by omega) (by omega)
  exact (ub_ty (hR.1 j) h3.1 h3.2).2
theorem m_label {x : Int64} {Qr : Int32 → xb_H → Prop} (hB : mB own mm A h) (hS : zS A F v cur fs g) (hfl : fs.length ≤ 201) (hx : 0 ≤ x.toInt ∧ x.toInt < 4294967296)
    (hQ : ∀ (u : Int32) (v' : Nat → Int32), (∀ j, j ≠ 17 → j ≠ 18 → v' j = v j) → (v' 17 = 0 → v 17 = 0 ∧ ∃ (i : Nat) (f' : ckF), x.toInt = i ∧ fs[i]? = some f' ∧ u.toInt = fl_ f') → (v' 17 ≠ 0 → u = 64) → Qr u (mH h F mm v')) : w_M_label mm x (mH h F mm v) Qr := by
  obtain ⟨s1, s2, s3, s4, s5, s6, s7⟩ := id hS
  obtain ⟨a1, a2, a3, a4⟩ := hB.kx (k := 25) (kd := 102) (n := 202) (by decide) (by decide)
  have L16 : ∀ y0 : Int32, (y0 ≠ 0 → x.toInt < fs.length) → w_M_label_L16 Qr mm x y0 mm (mH h F mm v) := fun y0 hy => by
    unfold w_M_label_L16 w_M_label_L47
    refine ⟨hB.2.1, m_need hB.2.1 (by decide) (fun v' g1 g2 g3 _ => ⟨hB.2.1, ?_⟩)⟩
    rw [mH_i]
    refine ⟨fun hn => hQ 64 v' g1 (fun hz => absurd hz hn) (fun _ => rfl), fun hz => ?_⟩
    obtain ⟨z1, z2⟩ := g2 hz
    have hlt := hy z2
    have ev := g3 z2
    subst ev
    have e1 : (Int64.toInt32 x).toInt = x.toInt := by
      rw [z_of64]
      omega
    have e2 : (v' 29 - 1 - Int64.toInt32 x).toInt = (fs.length - 1 - x.toInt.toNat : Nat) := by
      have : (v' 29 - 1).toInt = (fs.length : Int) - 1 := by
        rw [z_sub, s2]
        simp only [Int32.reduceToInt]
        omega
      rw [z_sub, this, e1]
      omega
    refine ⟨A 25, a1, a2, ?_, ?_⟩
    · rw [z_in, e2]
      show _ ∧ _ < ((xb_n h (A 25) : Nat) : Int)
      omega
    · rw [mH_o a4, z_cl, e2, Int.toNat_natCast]
      have hi : x.toInt.toNat < fs.length := by omega
      obtain ⟨f', hf'⟩ : ∃ f', fs[x.toInt.toNat]? = some f' := ⟨fs[x.toInt.toNat], List.getElem?_eq_getElem hi⟩
      exact hQ _ v' (fun _ _ _ => rfl) (fun _ => ⟨z1, x.toInt.toNat, f', by omega, hf', (s5.at hf').2⟩) (fun hn => absurd hz hn)
  unfold w_M_label
  rw [mH_i]
  refine ⟨hB.2.1, fun _ => L16 0 (fun h9 => absurd rfl h9), fun hle => L16 1 (fun _ => ?_)⟩
  rw [Z_le, Z_of32, s2] at hle
  omega
theorem m_closeOne {Qr : xb_H → Prop} (hB : mB own mm A h) (hS : zS A F v cur (f :: r) g) (hex : cur = ex ++ fb f) (hl : cur.length ≤ 60000) (hfl : (f :: r).length ≤ 201)
    (hQ : ∀ (v' : Nat → Int32) (cur' : List Int), (∀ j, j ≠ 17 → j ≠ 18 → j ≠ 22 → j ≠ 29 → v' j = v j) → zS A F v' cur' r g → cur'.length ≤ cur.length → (v' 17 = 0 → v 17 = 0 ∧ cur' = fb f ∧ ∃ rr, ck_tk f cur (fe f) rr (fb f)) → Qr (mH h F mm v')) : w_M_closeOne mm (mH h F mm v) Qr := by
  obtain ⟨s1, s2, s3, s4, s5, s6, s7⟩ := id hS
  obtain ⟨⟨f1, f2, f3, f4, f5⟩, sr⟩ := id s5
  obtain ⟨a1, a2, a3, a4⟩ := hB.kx (k := 27) (kd := 102) (n := 202) (by decide) (by decide)
  obtain ⟨c1, c2, c3, c4⟩ := hB.kx (k := 26) (kd := 102) (n := 202) (by decide) (by decide)
  have e29 : ∀ v2 : Nat → Int32, v2 29 = v 29 → (v2 29 - 1).toInt = r.length := fun v2 h2 => by
    rw [h2, z_sub, s2]
    simp only [Int32.reduceToInt, List.length_cons] at hfl ⊢
    omega
  have c29 : ∀ v2 : Nat → Int32, v2 29 = v 29 → (v2 29 - 1).toNatClampNeg = r.length := fun v2 h2 => by
    rw [z_cl, e29 v2 h2]
    omega
  have in29 : ∀ (v2 : Nat → Int32) (n : Nat), v2 29 = v 29 → 202 = n → vp_in (v2 29 - 1) n := fun v2 n h2 hn => by
    rw [z_in, e29 v2 h2]
    simp only [List.length_cons] at hfl
    omega
  unfold w_M_closeOne
  rw [mH_i]
  refine ⟨hB.2.1, A 26, c1, c2, in29 v _ rfl c3.symm, ?_⟩
  rw [mH_o c4, c29 v rfl]
  refine m_takeResult hB hS hex hl hfl (fun rr v1 cur1 ex1 g1 g2 g3 g4 g5 g6 _ => ⟨A 27, a1, a2, ?_⟩)
  rw [mH_i, mH_o a4, c29 v1 (g1 29 (by decide) (by decide) (by decide))]
  obtain ⟨t1, t2, t3, t4, t5, t6, t7⟩ := id g2
  rw [f3] at g6
  have fin : ∀ y0 : Int32, (y0 ≠ 0 → cur1.length = (fb f).length) → w_M_closeOne_L39 Qr mm y0 mm (mH h F mm v1) := fun y0 hy => by
    unfold w_M_closeOne_L39
    refine ⟨hB.2.1, m_need hB.2.1 (by decide) (fun v2 n1 n2 n3 _ => ⟨hB.2.1, fun h5 e5 => ?_⟩)⟩
    rw [mH_i, mH_I] at e5
    subst e5
    refine hQ _ cur1 (fun j j1 j2 j3 j4 => by rw [xh_up, if_neg j4, n1 j j1 j2]; exact g1 j j1 j2 j3) ⟨?_, ?_, ?_, t4, sr, t6, t7⟩ g5 (fun hz => ?_)
    · rw [xh_up, if_neg (by decide), n1 22 (by decide) (by decide)]; exact t1
    · rw [xh_up, if_pos rfl, e29 v2 ((n1 29 (by decide) (by decide)).trans (g1 29 (by decide) (by decide) (by decide)))]
    · rw [xh_up, if_neg (by decide), n1 23 (by decide) (by decide)]; exact t3
    · rw [xh_up, if_neg (by decide)] at hz
      obtain ⟨z1, z2⟩ := n2 hz
      obtain ⟨z3, z4⟩ := g6 z1
      have he : cur1 = fb f := by
        have := hy z2
        rw [g3, List.length_append] at this
        have h0 : ex1 = [] := List.length_eq_zero_iff.mp (by omega)
        rw [g3, h0]
        rfl
      exact ⟨z3, he, rr, by rw [← he]; exact (by rw [he] at z4 ⊢; exact z4)⟩
  refine ⟨in29 v1 _ (g1 29 (by decide) (by decide) (by decide)) a3.symm, fun _ => fin 0 (fun h9 => absurd rfl h9), fun he => fin 1 (fun _ => ?_)⟩
  rw [z_eq, t1, f4] at he
  omega
theorem ptl_s {pa P : Nat} : ptl cb pa (P + 1) = (cb (pa + P)).toInt :: ptl cb pa P := rfl
theorem m_takeParameters {x1 x2 : Int32} {Qr : xb_H → Prop} (hX : mX own mm A h F m D) (h1 : x1.toInt = m) (h2 : x2.toInt = t) (ht : t < qt D 1) (hz : v 17 = 0) (hS : zS A F v cur (f :: r) g) (hex : cur = ex ++ fb f) (hl : cur.length ≤ 60000) (hfl : (f :: r).length ≤ 201)
    (hQ : ∀ (v' : Nat → Int32) (cur' ex' : List Int), bv v v' → zS A F v' cur' (f :: r) g → cur' = ex' ++ fb f → (∀ y ∈ cur', y ∈ cur) → cur'.length ≤ cur.length → (v' 17 = 0 → ck_tkl f cur (ptl (qc D) (tPa D t) (tPn D t)) cur') → Qr (mH h F mm v')) : w_M_takeParameters mm x1 x2 (mH h F mm v) Qr := by
  have hB := hX.1
  obtain ⟨b1, b2, b3, b4, -, -⟩ := hX.2.2.tb ht
  obtain ⟨n, p2, k', c1, c2, c3, c4, c5, c6, c7, c8, c9, c10, c11⟩ := hX.2.2.ty ht
  have key : ∀ (k : Nat) (x3 : Int32) (v1 : Nat → Int32) (cur1 ex1 : List Int), x3.toInt = (k : Int) - 1 → k ≤ tPn D t → bv v v1 → zS A F v1 cur1 (f :: r) g → cur1 = ex1 ++ fb f → (∀ y ∈ cur1, y ∈ cur) → cur1.length ≤ cur.length → (v1 17 = 0 → ∀ cur', ck_tkl f cur1 (ptl (qc D) (tPa D t) k) cur' → ck_tkl f cur (ptl (qc D) (tPa D t) (tPn D t)) cur') → w_M_takeParameters_L9 Qr (k + 1) mm x1 x2 x3 (mH h F mm v1) := by
    intro k
    induction k with
    | zero =>
      intro x3 v1 cur1 ex1 e3 hk g1 g2 g3 g4 g5 g6
      unfold w_M_takeParameters_L9 w_M_takeParameters_L38
      rw [mH_i]
      refine ⟨fun _ => hQ v1 cur1 ex1 g1 g2 g3 g4 g5 (fun hz1 => g6 hz1 cur1 rfl), fun hn => ?_⟩
      rw [z_lt, e3] at hn
      simp only [Int32.reduceToInt] at hn
      omega
    | succ k ih =>
      intro x3 v1 cur1 ex1 e3 hk g1 g2 g3 g4 g5 g6
      unfold w_M_takeParameters_L9 w_M_takeParameters_L38
      rw [mH_i]
      refine ⟨fun hn => ?_, fun _ => ⟨hB.2.1, fun hn => hQ v1 cur1 ex1 g1 g2 g3 g4 g5 (fun hz1 => absurd hz1 hn), fun hz1 => ?_⟩⟩
      · rw [z_lt, e3] at hn
        simp only [Int32.reduceToInt] at hn
        omega
      · refine m_parameter (k := k) hX hz1 h1 h2 ht (by rw [e3]; omega) (fun v2 u k2 u1 _ _ => ?_)
        have hu := u1 (by omega)
        have hty := c3 (tPa D t + k) (by omega) (by omega)
        obtain ⟨y1, y2, y3⟩ := ub_ty (hX.2.2.1 _) hty.1 hty.2
        have eu : u.toInt = (qc D (tPa D t + k)).toInt := by rw [hu, y1]
        refine m_take hB (g2.vg k2.1) g3 (by omega) hfl (by omega) (fun w v3 cur3 ex3 d1 d2 d3 d4 d5 _ d7 _ => ih (x3 + -1) v3 cur3 ex3 ?_ (by omega) (g1.tr (k2.1.bv.tr (fun j _ _ _ j4 j5 j6 _ _ => d1 j j4 j5 j6))) d2 d3 (fun y hy => g4 y (d4 y hy)) (by omega) (fun hz3 cur' hc => ?_))
        · rw [z_add, e3]
          simp only [Int32.reduceToInt]
          omega
        · obtain ⟨-, d8⟩ := d7 hz3
          refine g6 hz1 cur' ?_
          rw [ptl_s]
          rw [eu] at d8
          exact ⟨w.toInt, cur3, d8, hc⟩
  unfold w_M_takeParameters
  refine ⟨hB.2.1, m_parameters hX hz h1 h2 ht (fun v1 u k1 hu _ v4 e4 => ⟨tPn D t + 1, key (tPn D t) v4 v1 cur ex ?_ (Nat.le_refl _) k1.1.bv (hS.vg k1.1) hex (fun _ h => h) (Nat.le_refl _) (fun _ cur' h => h)⟩)⟩
  rw [e4, z_sub, hu]
  simp only [Int32.reduceToInt]
  omega
end MK4
