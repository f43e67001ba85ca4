-- the world: constants, what is too much, rows that go beyond
/-- a constant's value -/
def kc (d : mD) (p : Nat) : Int64 := if dcb d p = 65 ∨ dcb d p = 67 then (dnu d (p + 1)).toInt64 &&& 4294967295 else if (dnu d p).toInt = p + 2 then (dnu d (p + 1)).toInt64 else (xb_lshl (dnu d (p + 2)).toInt64 32) ||| ((dnu d (p + 1)).toInt64 &&& 4294967295)
/-- the value of an expression, while a module is linked -/
def cv (ad : Nat → Nat) (h : xb_H) (d : mD) (p : Nat) : Int64 := if dcb d p = 35 then xb_l h (ad 22) (xb_l h (ad 35) (dnu d (p + 1)).toInt.toNat).toInt.toNat else kc d p
/-- the least of an own table (3, 1) or memory (4, 2) -/
def ol (d : mD) (k κ : Nat) : Int := if ni d κ < dn d k / 3 then (dvs d k 1).toInt else 0
theorem Z_low_rg (x : Int64) : 0 ≤ (x &&& 4294967295).toInt ∧ (x &&& 4294967295).toInt < 4294967296 := by
  rw [Z_low]
  omega
theorem kc_vr {d : mD} {p : Nat} (h1 : 65 ≤ (dcb d p).toInt) (h2 : (dcb d p).toInt ≤ 68) : vr (192 - (dcb d p).toInt) (kc d p) := fun h9 => by
  unfold kc
  rw [if_pos ?_]
  · exact Z_low_rg _
  · rw [z_eq, z_eq]
    simp only [Int32.reduceToInt]
    omega
/-- there is room for one more instance -/
def tmO (W : wD) (d : mD) : Prop := wic W < 24 ∧ wno W + (nf d - ni d 0) ≤ 8192 ∧ wnv W + (nvr d - ni d 3) ≤ 4096 ∧ (wne W : Int) + ol d 3 1 ≤ 16384 ∧ (wnp W : Int) + ol d 4 2 ≤ 16
/-- the i-th row of elements or data stays within a size -/
def rbO (ad : Nat → Nat) (h : xb_H) (d : mD) (k : Nat) (z : Int) (i : Nat) : Prop := (cv ad h d (dvs d k (5 * i + 2)).toInt.toNat).toInt + (dvs d k (5 * i + 4)).toInt ≤ z
section W3
variable {own ad : Nat → Nat} {h : xb_H} {W : wD} {σ : Nat}
theorem mo_constantAt {md p : Nat} {d : mD} {x : Int32} {Qr : Int64 → xb_H → Prop} (hm : mo own h md d) (hx : x.toInt = p) (hp : p + 1 < dN d) (hp2 : (dnu d p).toInt ≠ p + 2 → p + 2 < dN d) (hQ : Qr (kc d p) h) : w_StackModule_constantAt md x h Qr := by
  obtain ⟨⟨a1, a2, a3, a4, a5⟩, ⟨a6, a7, a8, a9⟩, -, -, hN⟩ := hm.1
  have cx : x.toNatClampNeg = p := by rw [z_cl, hx]; omega
  have e1 : (x + 1).toInt = (p + 1 : Nat) := z_inc hx (by omega)
  have c1 : (x + 1).toNatClampNeg = p + 1 := by rw [z_cl, e1]; omega
  have e2 : (x + 2).toInt = (p + 2 : Nat) := by rw [z_add, hx]; simp only [Int32.reduceToInt]; omega
  have c2 : (x + 2).toNatClampNeg = p + 2 := by rw [z_cl, e2]; omega
  unfold w_StackModule_constantAt w_StackModule_constantAt_L40 w_StackModule_constantAt_L83
  rw [cx, c1, c2]
  refine ⟨a1, _, a6, a7, by rw [z_in, e1, a8]; omega, fun v5 e5 => ⟨_, a2, a3, by rw [z_in, hx, a4]; omega, fun e => ?_, fun e => ?_, fun e e' => ⟨_, a6, a7, by rw [z_in, hx, a8]; omega, fun e3 => ⟨_, a6, a7, ?_, ?_⟩, fun e3 => ?_⟩⟩⟩
  · rw [a9] at e5
    rw [a5] at e
    subst e5
    unfold kc at hQ
    rw [if_pos (.inl e)] at hQ
    exact hQ
  · rw [a9] at e5
    rw [a5] at e
    subst e5
    unfold kc at hQ
    rw [if_pos (.inr e)] at hQ
    exact hQ
  · rw [a9, z_eq, e2] at e3
    rw [z_in, e2, a8]
    have := hp2 (by omega)
    omega
  · rw [a9, z_eq, e2] at e3
    rw [a9] at e5 ⊢
    rw [a5] at e e'
    subst e5
    unfold kc at hQ
    rw [if_neg (by rintro (h9 | h9); exact e h9; exact e' h9), if_neg (by omega)] at hQ
    exact hQ
  · rw [a9, z_eq, e2] at e3
    rw [a9] at e5
    rw [a5] at e e'
    subst e5
    unfold kc at hQ
    rw [if_neg (by rintro (h9 | h9); exact e h9; exact e' h9), if_pos (by omega)] at hQ
    exact hQ
/-- the variables that were found for a module's imports -/
def fV (ad : Nat → Nat) (h : xb_H) (W : wD) (d : mD) (n : Nat) : Prop := xr_row h (ad 34) 1 n (ad 35) ∧ ∀ j, j < n → ∃ v : Nat, (xb_l h (ad 35) j).toInt = v ∧ v < wnv W ∧ wvt W v = (dvs d 5 (4 * j + 1)).toInt
def fF (ad : Nat → Nat) (h : xb_H) (W : wD) (d : mD) (n : Nat) : Prop := xr_row h (ad 32) 1 n (ad 33) ∧ ∀ j, j < n → ∃ f : Nat, (xb_l h (ad 33) j).toInt = f ∧ vf W f ∧ fT W f = ftm d j
theorem wI_valueOf {md p : Nat} {d : mD} {x : Int32} {τ : Int} {Qr : Int64 → xb_H → Prop} (hB : cB own ad h) (hV : wV ad h W) (hF : fV ad h W d (ni d 3)) (hm : mo own h md d) (hni : (div_ d 3).toInt = ni d 3) (hx : x.toInt = p) (he : ck_ex (dN d) (dcb d) (dnu d) (dvs d 5) (div_ d 3).toInt p τ) (hQ : vr τ (cv ad h d p) → Qr (cv ad h d p) h) : w_World_valueOf (ad 14) md x h Qr := by
  obtain ⟨⟨a1, a2, a3, a4, a5⟩, ⟨a6, a7, a8, a9⟩, -, -, hN⟩ := hm.1
  obtain ⟨h1, h2⟩ := he
  have cx : x.toNatClampNeg = p := by rw [z_cl, hx]; omega
  have e1 : (x + 1).toInt = (p + 1 : Nat) := z_inc hx (by omega)
  have c1 : (x + 1).toNatClampNeg = p + 1 := by rw [z_cl, e1]; omega
  obtain ⟨v1, v2, v3⟩ := hV
  obtain ⟨f1, f2⟩ := hF
  unfold w_World_valueOf
  rw [cx, c1]
  refine ⟨a1, _, a2, a3, by rw [z_in, hx, a4]; omega, fun e => ?_, fun e => ?_⟩
  · rw [a5] at e
    have e0 : cv ad h d p = kc d p := if_neg e
    rw [e0] at hQ
    refine mo_constantAt hm hx (by omega) (fun _ => h1) (fun _ => hQ ?_)
    rcases h2 with ⟨h2, -⟩ | ⟨h2, h3, h4⟩
    · exact absurd (z_eq.mpr h2) e
    · rw [h4]
      exact kc_vr h2 h3
  · rw [a5] at e
    have e0 : cv ad h d p = xb_l h (ad 22) (xb_l h (ad 35) (dnu d (p + 1)).toInt.toNat).toInt.toNat := if_pos e
    rw [e0] at hQ
    rcases h2 with ⟨-, i, h3, h4, h5⟩ | ⟨h2, -⟩
    · obtain ⟨v, g1, g2, g3⟩ := f2 i (by omega)
      rw [h3, Int.toNat_natCast, g1, Int.toNat_natCast] at hQ
      obtain ⟨b1, b2, b3, b4, b5, b6, b7, b8⟩ := f1
      obtain ⟨c1', c2, c3, c4, c5, c6, c7, c8⟩ := v1
      have e2 : (xb_i h (dnt d) (p + 1) * xb_i h (ad 34) 2 + 0).toInt = i := z_row1 (by rw [a9]; exact h3) (by rw [b2]; rfl) (by omega)
      unfold w_Row_at
      refine ⟨hB.k 14 (by omega), ad 21, hB.r (14, 3, 21) (by decide), c1', ad 22, c4, ad 34, hB.r (14, 13, 34) (by decide), _, a6, a7, by rw [z_in, e1, a8]; omega, b1, b1, ad 35, b4, b5, by rw [z_in, e2]; omega, fun _ => ⟨c5, ?_, ?_⟩⟩
      · rw [z_cl, e2, Int.toNat_natCast, z_in, z_l2i g1 (by omega)]
        omega
      · have e3 : (Int64.toInt32 (xb_l h (ad 35) (xb_i h (dnt d) (p + 1) * xb_i h (ad 34) 2 + 0).toNatClampNeg)).toNatClampNeg = v := by
          rw [z_cl (xb_i h (dnt d) (p + 1) * xb_i h (ad 34) 2 + 0), e2, Int.toNat_natCast]
          exact z_l2n g1 (by omega)
        rw [e3]
        refine hQ ?_
        rw [← h5, ← g3]
        exact (v3 v g2).2
    · rw [e] at h2
      exact absurd h2 (by decide)
theorem mo_ownLeast {md k κ : Nat} {d : mD} {x : Int32} {Qr : Int64 → xb_H → Prop} (hm : mo own h md d) (hk : (k = 3 ∧ κ = 1) ∨ (k = 4 ∧ κ = 2)) (hx : x.toInt = κ) (hQ : ∀ r : Int64, r.toInt = ol d k κ → 0 ≤ r.toInt → r.toInt < 4294967296 → Qr r h) : w_World_ownLeast md (drw d k) x h Qr := by
  have hv := hm.2.1
  have hM := hm.1
  obtain ⟨⟨a1, a2, a3, a4, a5⟩, ⟨a6, a7, a8, a9⟩, -, ⟨i1, i2, i3, i4⟩, hN⟩ := hM
  have hq := hv.2.1.2.2
  have hcn := hv.2.1.2.1
  have c1 := hcn 1 (by omega)
  have c2 := hcn 2 (by omega)
  have n1 : dn d k / 3 ≤ 1 ∧ dn d k ≤ 131072 ∧ (0 < dn d k / 3 → 3 ≤ dn d k ∧ 0 ≤ (dvs d k 1).toInt ∧ (dvs d k 1).toInt < 4294967296) := by
    have h4 := hv.2.2.2.2.2.2.2.2.2.2.2.1
    have h5 := hv.2.2.2.2.2.2.2.2.2.2.2.2.1
    rcases hk with ⟨e, -⟩ | ⟨e, -⟩
    · subst e
      obtain ⟨l1, l2⟩ := hv.2.2.2.1
      refine ⟨l2, by have := h4 3 (by omega); omega, fun h9 => ?_⟩
      obtain ⟨⟨p1, p2, p3, p4, -⟩, p5⟩ := l1.at (by omega) (i := 0) h9
      exact ⟨by omega, p3, p4⟩
    · subst e
      obtain ⟨l1, l2, l3⟩ := hv.2.2.2.2.1
      refine ⟨l2, by have := h4 4 (by omega); omega, fun h9 => ?_⟩
      obtain ⟨⟨p1, p2, p3, p4, -⟩, p5⟩ := l1.at (by omega) (i := 0) h9
      exact ⟨by omega, p3, p4⟩
  have hk12 : k < 12 := by omega
  have hcc : xr_c k = 3 := by rcases hk with ⟨e, -⟩ | ⟨e, -⟩ <;> (rw [e]; rfl)
  have cκ : x.toNatClampNeg = κ := by rw [z_cl, hx]; omega
  have hκ : (div_ d κ).toInt = ni d κ := by
    unfold ni
    rcases hk with ⟨-, e⟩ | ⟨-, e⟩ <;> (rw [e]; omega)
  unfold w_World_ownLeast w_World_ownLeast_L28
  rw [cκ]
  refine ⟨hm.1.krow hk12, md_lines hm.1 (k := k) (c := 3) hk12 hcc (by omega) (fun r3 e3 _ => ⟨a1, _, i1, i2, by rw [z_in, hx, i3]; omega, fun e => ?_, fun e => ⟨_, i1, i2, by rw [z_in, hx, i3]; omega, ?_⟩⟩)⟩
  · rw [i4, z_le, e3, hκ] at e
    have e0 : ol d k κ = 0 := if_neg (by omega)
    exact hQ 0 (by rw [e0]; rfl) (by decide) (by decide)
  · rw [i4, z_le, e3, hκ] at e
    rw [i4]
    have e0 : ol d k κ = (dvs d k 1).toInt := if_pos (by omega)
    obtain ⟨g1, g2, g3⟩ := n1.2.2 (by omega)
    refine md_longAt hm.1 (k := k) (c := 3) (i := 0) (j := 1) hk12 hcc (by rw [hκ]; omega) rfl (by omega) (by omega) (fun _ => ?_)
    exact hQ _ (by rw [e0]) g2 g3
theorem ol_rg {md k κ : Nat} {d : mD} (hm : mo own h md d) (hk : (k = 3 ∧ κ = 1) ∨ (k = 4 ∧ κ = 2)) : 0 ≤ ol d k κ ∧ ol d k κ < 4294967296 ∧ (k = 4 → ol d k κ ≤ 65536) := by
  have hv := hm.2.1
  unfold ol
  split
  · rename_i h9
    rcases hk with ⟨e, -⟩ | ⟨e, -⟩
    · subst e
      obtain ⟨l1, l2⟩ := hv.2.2.2.1
      obtain ⟨⟨p1, p2, p3, p4, -⟩, p5⟩ := l1.at (by omega) (i := 0) (by omega)
      exact ⟨p3, p4, fun h => by omega⟩
    · subst e
      obtain ⟨l1, l2, l3⟩ := hv.2.2.2.2.1
      obtain ⟨⟨p1, p2, p3, p4, -⟩, p5⟩ := l1.at (by omega) (i := 0) (by omega)
      exact ⟨p3, p4, fun _ => (l3 (by omega)).1⟩
  · omega
theorem wI_isTooMuch {md : Nat} {d : mD} {Qr : Int32 → xb_H → Prop} (hB : cB own ad h) (hW : wI own ad h W σ) (hm : mo own h md d) (hn : (div_ d 0).toInt = ni d 0 ∧ (div_ d 3).toInt = ni d 3 ∧ ni d 0 ≤ nf d ∧ ni d 3 ≤ nvr d ∧ nf d ≤ 65536 ∧ nvr d ≤ 65536)
    (hQ : ∀ r : Int32, (r = 1 ∧ ¬ tmO W d) ∨ (r = 0 ∧ tmO W d) → Qr r h) : w_World_isTooMuch (ad 14) md h Qr := by
  obtain ⟨⟨o1, o2, o3⟩, ⟨v1, v2, v3⟩, ⟨e1, e2, e3⟩, ⟨w1, w2⟩, -, -, ⟨l1, l2, l3, l4⟩, -, -⟩ := hW
  obtain ⟨hn0, hn3, hn1, hn2, hn4, hn5⟩ := hn
  have k14 : xb_k h (ad 14) = 7 := hB.k 14 (by omega)
  obtain ⟨⟨a1, a2, a3, a4, a5⟩, ⟨a6, a7, a8, a9⟩, -, ⟨i1, i2, i3, i4⟩, hN⟩ := hm.1
  have out : ¬ tmO W d → Qr 1 h := fun h9 => hQ 1 (.inl ⟨rfl, h9⟩)
  unfold w_World_isTooMuch w_World_isTooMuch_L112 w_World_isTooMuch_L117
  refine ⟨k14, fun c0 => ⟨.inr rfl, out (fun h9 => ?_)⟩, fun c0 => ⟨ad 19, hB.r (14, 2, 19) (by decide), o1.1, a1, _, hm.1.row (k := 2) (by omega), hm.1.krow (by omega), md_lines hm.1 (k := 2) (c := 2) (by omega) rfl (by omega) (fun r9 e9 _ => ⟨_, i1, i2, by rw [z_in, i3]; decide, fun c1 => ⟨.inr rfl, out (fun h9 => ?_)⟩, fun c1 => ⟨ad 21, hB.r (14, 3, 21) (by decide), v1.1, _, hm.1.row (k := 5) (by omega), hm.1.krow (by omega), md_lines hm.1 (k := 5) (c := 4) (by omega) rfl (by omega) (fun r19 e19 _ => ⟨_, i1, i2, by rw [z_in, i3]; decide, fun c2 => ⟨.inr rfl, out (fun h9 => ?_)⟩, fun c2 => ⟨ad 23, hB.r (14, 4, 23) (by decide), e1.1, _, hm.1.row (k := 3) (by omega), mo_ownLeast hm (.inl ⟨rfl, rfl⟩) rfl (fun r28 e28 e28a e28b _ => ⟨fun c3 => ⟨.inr rfl, out (fun h9 => ?_)⟩, fun c3 => ?_⟩)⟩⟩)⟩⟩)⟩⟩
  · rw [z_le, l3] at c0
    simp only [Int32.reduceToInt] at c0
    have := h9.1
    omega
  · rw [i4, z_lt, z_addsub o1.2.2.1 e9 hn0 (by omega) (by unfold nf at hn4; omega) (by unfold nf at hn1; omega)] at c1
    simp only [Int32.reduceToInt] at c1
    have := h9.2.1
    unfold nf at *
    omega
  · rw [i4, z_lt, z_addsub v1.2.2.1 e19 hn3 (by omega) (by unfold nvr at hn5; omega) (by unfold nvr at hn2; omega)] at c2
    simp only [Int32.reduceToInt] at c2
    have := h9.2.2.1
    unfold nvr at *
    omega
  · have e5 : ((xb_i h (ad 23) 1).toInt64 + r28).toInt = (wne W : Int) + r28.toInt := by
      rw [Z_add, Z_of32, e1.2.2.1]
      omega
    rw [Z_lt, e5] at c3
    simp only [Int64.reduceToInt] at c3
    rw [e28] at c3
    have := h9.2.2.2.1
    omega
  have hu : (xb_i h (ad 25) 1 / 8192).toInt = wnp W := by
    have := w1.2.2.1
    rw [Int32.toInt_div_of_ne_left _ _ (fun e => by rw [e] at this; have h9 : (Int32.minValue).toInt = -2147483648 := rfl; omega), this]
    show Int.tdiv ((8192 * wnp W : Nat) : Int) 8192 = wnp W
    rw [Int.tdiv_eq_ediv_of_nonneg (by omega)]
    omega
  unfold w_World_usedPages
  refine ⟨k14, ad 25, hB.r (14, 5, 25) (by decide), w1.1, fun _ => ⟨_, hm.1.row (k := 4) (by omega), mo_ownLeast hm (.inr ⟨rfl, rfl⟩) rfl (fun r34 e34 e34a e34b _ => ⟨fun c4 => ⟨.inl rfl, hQ 0 (.inr ⟨rfl, ?_, ?_, ?_, ?_, ?_⟩)⟩, fun c4 => ⟨.inr rfl, out (fun h9 => ?_)⟩⟩)⟩⟩
  rotate_left 5
  · have e5 : ((xb_i h (ad 25) 1 / 8192).toInt64 + r34).toInt = (wnp W : Int) + r34.toInt := by
      rw [Z_add, Z_of32, hu]
      omega
    rw [Z_le, e5] at c4
    simp only [Int64.reduceToInt] at c4
    rw [e34] at c4
    have := h9.2.2.2.2
    omega
  · rw [z_le, l3] at c0
    simp only [Int32.reduceToInt] at c0
    omega
  · rw [i4, z_lt, z_addsub o1.2.2.1 e9 hn0 (by omega) (by unfold nf at hn4; omega) (by unfold nf at hn1; omega)] at c1
    simp only [Int32.reduceToInt] at c1
    unfold nf at *
    omega
  · rw [i4, z_lt, z_addsub v1.2.2.1 e19 hn3 (by omega) (by unfold nvr at hn5; omega) (by unfold nvr at hn2; omega)] at c2
    simp only [Int32.reduceToInt] at c2
    unfold nvr at *
    omega
  · have e5 : ((xb_i h (ad 23) 1).toInt64 + r28).toInt = (wne W : Int) + r28.toInt := by
      rw [Z_add, Z_of32, e1.2.2.1]
      omega
    rw [Z_lt, e5] at c3
    simp only [Int64.reduceToInt] at c3
    rw [e28] at c3
    omega
  · have e5 : ((xb_i h (ad 25) 1 / 8192).toInt64 + r34).toInt = (wnp W : Int) + r34.toInt := by
      rw [Z_add, Z_of32, hu]
      omega
    rw [Z_le, e5] at c4
    simp only [Int64.reduceToInt] at c4
    rw [e34] at c4
    omega
/-- rows of elements (7) or data (11) that don't go beyond a size -/
theorem wI_rowBeyond {md k : Nat} {d : mD} {x3 : Int64} {Qr : Int32 → xb_H → Prop} (hB : cB own ad h) (hV : wV ad h W) (hF : fV ad h W d (ni d 3)) (hm : mo own h md d) (hni : (div_ d 3).toInt = ni d 3) (hk : k = 7 ∨ k = 11) (hx3 : 0 ≤ x3.toInt ∧ x3.toInt < 1099511627776)
    (hQ : ∀ r : Int32, (∃ i : Nat, r.toInt = i ∧ i < dn d k / 5 ∧ ¬ rbO ad h d k x3.toInt i ∧ ∀ j, j < i → rbO ad h d k x3.toInt j) ∨ (r = -1 ∧ ∀ i, i < dn d k / 5 → rbO ad h d k x3.toInt i) → Qr r h) : w_World_rowBeyond (ad 14) md (drw d k) x3 h Qr := by
  have hv := hm.2.1
  have h4 := hv.2.2.2.2.2.2.2.2.2.2.2.1
  have h5 := hv.2.2.2.2.2.2.2.2.2.2.2.2.1
  have hk12 : k < 12 := by omega
  have hcc : xr_c k = 5 := by rcases hk with e | e <;> (rw [e]; rfl)
  have hnk := h4 k hk12
  have k14 : xb_k h (ad 14) = 7 := hB.k 14 (by omega)
  have row : ∀ i, i < dn d k / 5 → 5 * i + 5 ≤ dn d k ∧ (∃ p : Nat, (dvs d k (5 * i + 2)).toInt = p ∧ ck_ex (dN d) (dcb d) (dnu d) (dvs d 5) (div_ d 3).toInt p 127) ∧ 0 ≤ (dvs d k (5 * i + 4)).toInt ∧ (dvs d k (5 * i + 4)).toInt ≤ 65536 := by
    intro i hi
    rcases hk with e | e
    · subst e
      obtain ⟨⟨m, g1⟩, g2⟩ := hv.2.2.2.2.2.2.2.1
      obtain ⟨-, q2, ⟨q3, q4, q5⟩, -⟩ := g2 i hi
      have := h4 8 (by omega)
      exact ⟨by omega, q2, q4, by omega⟩
    · subst e
      obtain ⟨⟨m, g1⟩, g2⟩ := hv.2.2.2.2.2.2.2.2.2.1
      obtain ⟨-, q2, q3, q4, q5⟩ := g2 i hi
      exact ⟨by omega, q2, q4, by omega⟩
  have key : ∀ (m : Nat) (x5 : Int32) (i : Nat), x5.toInt = i → i ≤ dn d k / 5 → dn d k / 5 - i ≤ m → (∀ j, j < i → rbO ad h d k x3.toInt j) → w_World_rowBeyond_L3 Qr (m + 1) (ad 14) md (drw d k) x3 x5 h := by
    intro m
    induction m with
    | zero =>
      intro x5 i e5 hi hm9 hd
      have ei : i = dn d k / 5 := by omega
      unfold w_World_rowBeyond_L3
      refine ⟨hm.1.krow hk12, md_lines hm.1 (k := k) (c := 5) hk12 hcc (by omega) (fun r3 e3 _ => ⟨fun _ => hQ (-1) (.inr ⟨rfl, fun j hj => hd j (by omega)⟩), fun e => ?_⟩)⟩
      rw [z_le, e3, e5] at e
      omega
    | succ m ih =>
      intro x5 i e5 hi hm9 hd
      unfold w_World_rowBeyond_L3
      refine ⟨hm.1.krow hk12, md_lines hm.1 (k := k) (c := 5) hk12 hcc (by omega) (fun r3 e3 _ => ⟨fun e => hQ (-1) (.inr ⟨rfl, fun j hj => hd j (by rw [z_le, e3, e5] at e; omega)⟩), fun e => ⟨k14, ?_⟩⟩)⟩
      rw [z_le, e3, e5] at e
      obtain ⟨g1, ⟨p, g2, g3⟩, g4, g5⟩ := row i (by omega)
      have hpN := g3.1
      unfold w_World_offsetOf
      refine ⟨hm.1.krow hk12, md_at hm.1 (k := k) (c := 5) (i := i) (j := 2) hk12 hcc e5 rfl (by omega) g1 (fun r3' e3' _ => ⟨k14, wI_valueOf hB hV hF hm hni (p := p) (by omega) g3 (fun hvr _ => ?_)⟩)⟩
      refine fun _ => md_longAt hm.1 (k := k) (c := 5) (i := i) (j := 4) hk12 hcc e5 rfl (by omega) g1 (fun _ => ⟨fun e4 => ?_, fun e4 => ?_⟩)
      · obtain ⟨w1, w2⟩ := hvr (.inl rfl)
        rw [Z_le, Z_add] at e4
        have e6 : (x5 + 1).toInt = (i + 1 : Nat) := z_inc e5 (by omega)
        refine ih (x5 + 1) (i + 1) e6 (by omega) (by omega) (fun j hj => ?_)
        by_cases hji : j = i
        · subst hji
          unfold rbO
          rw [g2, Int.toNat_natCast]
          omega
        · exact hd j (by omega)
      · refine hQ x5 (.inl ⟨i, e5, by omega, fun h9 => ?_, hd⟩)
        obtain ⟨w1, w2⟩ := hvr (.inl rfl)
        rw [Z_le, Z_add] at e4
        unfold rbO at h9
        rw [g2, Int.toNat_natCast] at h9
        omega
  unfold w_World_rowBeyond
  exact ⟨dn d k / 5 + 1, key _ 0 0 rfl (by omega) (by omega) (fun j hj => by omega)⟩
end W3
