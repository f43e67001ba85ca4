-- how far an instruction reaches into the types
/-- a label's type -/
def labT (cb : Nat → Int32) (res : Int) (gs : List gF) (i : Nat) : Int := match gs[i]? with
  | some x => if (cb x.1).toInt = 3 then 64 else (cb (x.1 + 1)).toInt
  | none => res
/-- how many types lie below what was opened last -/
def gbl (gs : List gF) : Nat := match gs with
  | [] => 0
  | x :: _ => x.2.length
/-- what an instruction takes lies above what was opened last -/
def ct_D (vs : Nat → Nat → Int64) (cb ν0 : Nat → Int32) (t : Nat) (op : Int) (q : Nat) (cur : List Int) (gs : List gF) : Prop :=
  (op = 4 ∨ op = 26 ∨ op = 33 ∨ op = 34 ∨ op = 36 ∨ op = 64 ∨ (40 ≤ op ∧ op < 54) → gbl gs + 1 ≤ cur.length) ∧
  (54 ≤ op ∧ op < 63 → gbl gs + 2 ≤ cur.length) ∧ (op = 27 → gbl gs + 3 ≤ cur.length) ∧
  (op = 12 → ∀ i : Nat, (ν0 (q + 1)).toInt = i → gbl gs + (tp (labT cb (vs 0 (5 * t + 4)).toInt gs i)).length ≤ cur.length) ∧
  (op = 13 → ∀ i : Nat, (ν0 (q + 1)).toInt = i → gbl gs + 1 + (tp (labT cb (vs 0 (5 * t + 4)).toInt gs i)).length ≤ cur.length) ∧
  (op = 14 → ∀ L k i : Nat, (ν0 (q + 1)).toInt = L → k ≤ L → (ν0 (q + 2 + k)).toInt = i → gbl gs + 1 + (tp (labT cb (vs 0 (5 * t + 4)).toInt gs i)).length ≤ cur.length) ∧
  (op = 15 → gbl gs + (tp (vs 0 (5 * t + 4)).toInt).length ≤ cur.length) ∧
  (op = 16 → ∀ i u P : Nat, (ν0 (q + 1)).toInt = i → (vs 2 (2 * i + 1)).toInt = u → (vs 0 (5 * u + 2)).toInt = P → gbl gs + P ≤ cur.length) ∧
  (op = 17 → ∀ u P : Nat, (ν0 (q + 1)).toInt = u → (vs 0 (5 * u + 2)).toInt = P → gbl gs + 1 + P ≤ cur.length) ∧
  (69 ≤ op → ∀ i, i < 30 → (∀ j, j < i → SG (4 * j) < op) → op ≤ SG (4 * i) → gbl gs + (SG (4 * i + 1)).toNat ≤ cur.length)
section MKD
variable {n : Nat → Nat} {vs : Nat → Nat → Int64} {cb lo ν ν' ν0 : Nat → Int32} {t lcn p0 q : Nat} {G : ctG} {g g' x res : Int} {cur cur' c : List Int} {f f' : ckF} {r fs fs' : List ckF} {st : List (Nat × Option Nat)} {op : Int} {lv : Bool}
theorem ct_FM.gb : ∀ {f : ckF} {r : List ckF} {st : List (Nat × Option Nat)}, ct_FM cb ν p0 res G (f :: r) st → gbl (gl (f :: r)) = (fb f).length
  | f, [], _, h => by
    rw [h.2.2.2.2.2.1]
    rfl
  | f, f2 :: r, st, h => rfl
theorem ct_FM.lt : ∀ {fs : List ckF} {st : List (Nat × Option Nat)} {i : Nat} {f' : ckF}, ct_FM cb ν p0 res G fs st → fs[i]? = some f' → labT cb res (gl fs) i = fl_ f'
  | [], _, _, _, h, _ => h.elim
  | b :: [], _, 0, f', h, e => by
    simp only [List.getElem?_cons_zero, Option.some.injEq] at e
    subst e
    exact h.2.2.2.1.symm
  | b :: [], _, i + 1, f', h, e => by
    simp at e
  | f :: f2 :: r, st, 0, f', h, e => by
    obtain ⟨o, x, st', -, ⟨⟨b1, b2, b3, b4, b5, b6, b7, b8⟩, c0, c1, d⟩, -⟩ := h
    simp only [List.getElem?_cons_zero, Option.some.injEq] at e
    subst e
    have eo : (fa f).toNat = o := by omega
    show (if (cb (fa f).toNat).toInt = 3 then (64 : Int) else (cb ((fa f).toNat + 1)).toInt) = _
    rw [eo, b3]
    rcases d with ⟨-, -, d3, d4⟩ | ⟨e, -, -, d2, d3, d4, d5, -⟩
    · rw [d3, d4]
    · rw [d3, if_neg (by decide), d5]
  | f :: f2 :: r, st, i + 1, f', h, e => by
    obtain ⟨o, x, st', -, -, h2⟩ := h
    simp only [List.getElem?_cons_succ] at e
    have := ct_FM.lt h2 e
    rw [← this]
    rfl
theorem ck_tk.dp {r : Int} (hl : lvf f) (h : ck_tk f cur x r c) (hb : (fb f).length ≤ cur.length) : (fb f).length ≤ c.length ∧ c.length + (tp x).length = cur.length := by
  rcases h with ⟨e1, e2, e3⟩ | ⟨e1, e2, e3, e4⟩ | ⟨e1, e2, e3, e4, e5⟩
  · subst e1 e3
    exact ⟨hb, by rw [tp_64]; rfl⟩
  · rw [e2, tp_ne e1]
    exact ⟨e3, rfl⟩
  · exact absurd hl.2 e3
theorem ck_tkl.dp : ∀ {xs cur : List Int}, lvf f → (∀ y ∈ xs, 124 ≤ y ∧ y ≤ 127) → ck_tkl f cur xs c → (fb f).length ≤ cur.length → (fb f).length ≤ c.length ∧ c.length + xs.length = cur.length
  | [], cur, _, _, h, hb => by
    have e : c = cur := h
    subst e
    exact ⟨hb, rfl⟩
  | x :: xs, cur, hl, hx, h, hb => by
    obtain ⟨r, c1, h1, h2⟩ := h
    obtain ⟨y1, y2⟩ := ck_tk.dp hl h1 hb
    obtain ⟨z1, z2⟩ := ck_tkl.dp hl (fun y hy => hx y (List.mem_cons_of_mem _ hy)) h2 y1
    have := hx x List.mem_cons_self
    rw [tp_ne (by omega)] at y2
    simp only [List.length_cons, List.length_nil] at y2 ⊢
    exact ⟨z1, by omega⟩
theorem tp1 (h : x ≠ 64) : (tp x).length = 1 := by rw [tp_ne h]; rfl
theorem ck_st.dp {N E : Nat} (hL : xr_L 5 (mp0 N cb) (n 0) (vs 0)) (ht : t < n 0 / 5) (hlo : ∀ j, j < lcn → 124 ≤ (lo j).toInt ∧ (lo j).toInt ≤ 127) (hv : ∀ i : Nat, i < n 5 / 4 → 124 ≤ (vs 5 (4 * i + 1)).toInt ∧ (vs 5 (4 * i + 1)).toInt ≤ 127) (hfn : ∀ i : Nat, i < n 2 / 2 → (vs 2 (2 * i + 1)).toInt < (n 0 / 5 : Nat))
    (hI : ct_I n vs cb lo t lcn p0 E ν0 G ν q cur f r st g) (hl : lvf f) (h : ck_st n vs cb lo t lcn lv q op cur f r ν g cur' fs' ν' g') : ct_D vs cb ν0 t op q cur (gl (f :: r)) := by
  obtain ⟨⟨a1, a2, a3, a4⟩, ⟨t1, ⟨ex, t2⟩, -⟩, a6, a7, a8, a9, a10, -⟩ := id hI
  obtain ⟨K0, K1, K2, K3, K4, K5, K6, K7, K8, K9, K10, K11, K12, K13, K14, K15, K16, K17⟩ := h
  have hb : (fb f).length ≤ cur.length := by rw [t2, List.length_append]; omega
  have e1 := a9 (q + 1) (by omega)
  have hg := a4.gb
  unfold ct_D
  rw [hg]
  refine ⟨fun ho => ?_, fun ho => ?_, fun ho => ?_, fun ho i hi => ?_, fun ho i hi => ?_, fun ho L k i hL' hk hi => ?_, fun ho => ?_, fun ho i u P hi hu hP => ?_, fun ho u P hu hP => ?_, fun ho i i1 i2 i3 => ?_⟩
  · rcases ho with ho | ho | ho | ho | ho | ho | ho
    · obtain ⟨w, -, k2, -⟩ := K2 (by omega) (by omega)
      obtain ⟨r3, k2⟩ := k2 ho
      have := k2.dp hl hb
      rw [tp1 (by decide)] at this
      omega
    · obtain ⟨⟨r1, k1⟩, -⟩ := K11 ho
      have := k1.dp hl hb
      rw [tp1 (by decide)] at this
      omega
    · obtain ⟨i, pa, P, -, k2, k3, k4, -, k6, -⟩ := K13 (by omega) (by omega)
      obtain ⟨-, r1, k6⟩ := k6 ho
      have lt := lt_ty hL ht hlo k2 k3 k4
      have := k6.dp hl hb
      rw [tp1 (by omega)] at this
      omega
    · obtain ⟨i, pa, P, -, k2, k3, k4, -, -, k7, -⟩ := K13 (by omega) (by omega)
      obtain ⟨r1, c1, k7, -⟩ := k7 ho
      have lt := lt_ty hL ht hlo k2 k3 k4
      have := k7.dp hl hb
      rw [tp1 (by omega)] at this
      omega
    · obtain ⟨i, -, k2, -, k4, -⟩ := K14 (by omega) (by omega)
      obtain ⟨-, -, r1, k6⟩ := k4 ho
      have lt := hv i k2
      have := k6.dp hl hb
      rw [tp1 (by omega)] at this
      omega
    · obtain ⟨-, -, k2, -⟩ := K15 (by omega) (by omega)
      obtain ⟨r1, c1, z1, -⟩ := k2 ho
      have := z1.dp hl hb
      rw [tp1 (by decide)] at this
      omega
    · obtain ⟨-, -, -, k3, -⟩ := K15 (by omega) (by omega)
      obtain ⟨r1, c1, z1, -⟩ := k3 (by omega)
      have := z1.dp hl hb
      rw [tp1 (by decide)] at this
      omega
  · obtain ⟨-, -, -, -, k4, -⟩ := K15 (by omega) (by omega)
    obtain ⟨-, r1, r2, c1, z1, z2⟩ := k4 (by omega) (by omega)
    have mt := mt_ty (op - 40).toNat (by omega)
    obtain ⟨y1, y2⟩ := z1.dp hl hb
    have y3 := z2.dp hl y1
    rw [tp1 (by omega)] at y2
    rw [tp1 (by decide)] at y3
    omega
  · obtain ⟨c1, c2, c3, r3, r5, r7, k1, k2, k3, -⟩ := K12 ho
    obtain ⟨y1, y2⟩ := k1.dp hl hb
    obtain ⟨y3, y4⟩ := k2.dp hl y1
    obtain ⟨y5, y6⟩ := k3.dp hl y3
    rw [tp1 (by decide)] at y2 y4
    have t5 := k2.ty (by decide) (k1.ty2 t1)
    have h5 : ck_t r5 := t5.1
    rw [tp1 (by rcases h5 with h5 | h5 <;> omega)] at y6
    omega
  · obtain ⟨i', f', w, r2, c2, k1, k2, -, k4, -⟩ := K5 ho
    have ei : i' = i := by rw [e1, hi] at k1; omega
    subst ei
    rw [a4.lt k2]
    have := k4.dp hl hb
    omega
  · obtain ⟨i', f', w, c1, c2, r1, r2, k1, k2, -, k4, k5, -⟩ := K6 ho
    have ei : i' = i := by rw [e1, hi] at k1; omega
    subst ei
    rw [a4.lt k2]
    obtain ⟨y1, y2⟩ := k4.dp hl hb
    have y3 := k5.dp hl y1
    rw [tp1 (by decide)] at y2
    omega
  · obtain ⟨L', lab, c1, c2, r1, r2, k1, -, k3, k4, k5, -⟩ := K7 ho
    have eL : L' = L := by rw [e1, hL'] at k1; omega
    subst eL
    obtain ⟨i', f', z1, z2, -, z4⟩ := k3 k hk
    have ei : i' = i := by rw [a9 (q + 2 + k) (by omega), hi] at z1; omega
    subst ei
    rw [a4.lt z2, z4]
    obtain ⟨y1, y2⟩ := k4.dp hl hb
    have y3 := k5.dp hl y1
    rw [tp1 (by decide)] at y2
    omega
  · obtain ⟨⟨r2, c2, k1⟩, -⟩ := K8 ho
    have := k1.dp hl hb
    omega
  · obtain ⟨i', u', pa, P', c1, k1, k2, k3, k4, k5, k6, -⟩ := K9 ho
    have ei : i' = i := by rw [e1, hi] at k1; omega
    subst ei
    have eu : u' = u := by rw [hu] at k3; omega
    subst eu
    have eP : P' = P := by rw [hP] at k5; omega
    subst eP
    have hu' := hfn i' k2
    rw [k3] at hu'
    obtain ⟨z1, z2⟩ := ty_ty hL (u := u') (by omega)
    have := ck_tkl.dp hl (ptl_ty (z2 pa P' k4 k5)) k6 hb
    rw [ptl_len] at this
    omega
  · obtain ⟨u', pa, P', c0, c1, r0, -, k1, k2, k4, k5, k6, k7, -⟩ := K10 ho
    have eu : u' = u := by rw [e1, hu] at k1; omega
    subst eu
    have eP : P' = P := by rw [hP] at k5; omega
    subst eP
    obtain ⟨z1, z2⟩ := ty_ty hL (u := u') (by omega)
    obtain ⟨y1, y2⟩ := k6.dp hl hb
    have := ck_tkl.dp hl (ptl_ty (z2 pa P' k4 k5)) k7 y1
    rw [tp1 (by decide)] at y2
    rw [ptl_len] at this
    omega
  · obtain ⟨i', c1, k1, k2, k3, k4, -⟩ := K17 ho
    have ei : i' = i := by
      rcases Nat.lt_trichotomy i' i with h9 | h9 | h9
      · have := i2 i' h9
        omega
      · exact h9
      · have := k2 i h9
        omega
    subst ei
    obtain ⟨z1, z2⟩ := sg_ty i' k1
    have := ck_tkl.dp hl (fun y hy => by rw [List.eq_of_mem_replicate hy]; exact z1) k4 hb
    rw [List.length_replicate] at this
    omega
theorem ct_D_11 {gs : List gF} (h : op = 11) : ct_D vs cb ν0 t op q cur gs := by
  subst h
  refine ⟨fun h => by omega, fun h => by omega, fun h => by omega, fun h => by omega, fun h => by omega, fun h => by omega, fun h => by omega, fun h => by omega, fun h => by omega, fun h => by omega⟩
end MKD
