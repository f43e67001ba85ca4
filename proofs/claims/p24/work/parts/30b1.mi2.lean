-- the reference: exports, memory, and the calls that look at them
section MI2
variable {own : Nat → Nat} {mm m i ip k f t : Nat} {A : Nat → Nat} {h h' h2 : xb_H} {F F' F2 : Nat → Nat → Int32} {v v' v2 : Nat → Int32} {D : zM} {DM : Nat → zM} {len rl K : Nat} {Qr : Int32 → xb_H → Prop}
theorem m_exportKind {x1 x2 : Int32} (hX : mX own mm A h F m D) (hz : v 17 = 0) (h1 : x1.toInt = m) (h2 : x2.toInt = k) (hk : k < qt D 7) (hQ : ∀ v', vk v v' D (xko D k + 1) → Qr (ub (qc D) (xko D k)) (mH h F mm v')) : w_M_exportKind mm x1 x2 (mH h F mm v) Qr := by
  obtain ⟨q, x, y1, y2, y3, y4, y5, y6, y7⟩ := hX.2.2.x7 hk
  have rb := rC_b y3
  unfold w_M_exportKind
  refine ⟨hX.1.2.1, m_placeOf hX h1 (s := 7) rfl (by decide) h2 hk (fun r e _ => m_go_k hX hz h1 e y5 (by omega) (fun v1 k1 _ => m_name_k hX.rd k1.2.2.1 k1.2.2.2 y1 (by omega) (fun v2 o2 z2 _ => m_next_k hX.rd (o2.P k1.2.2.1) z2 (by omega) (fun v3 o3 z3 _ => hQ v3 ((k1.go o2 z2).go o3 z3)))))⟩
theorem m_exportNumber {x1 x2 : Int32} (hX : mX own mm A h F m D) (hz : v 17 = 0) (h1 : x1.toInt = m) (h2 : x2.toInt = k) (hk : k < qt D 7) (hx : xnu D k < 2147483648) (hQ : ∀ (v' : Nat → Int32) (r : Int32), vg v v' → v' 17 = 0 → r.toInt = xnu D k → Qr r (mH h F mm v')) : w_M_exportNumber mm x1 x2 (mH h F mm v) Qr := by
  obtain ⟨q, x, y1, y2, y3, y4, y5, y6, y7⟩ := hX.2.2.x7 hk
  unfold w_M_exportNumber
  refine ⟨hX.1.2.1, m_exportKind hX hz h1 h2 hk (fun v1 k1 _ => m_count_k hX.rd k1.2.2.1 k1.2.2.2 y3 y6 (fun v2 o2 z2 _ => hQ v2 _ (k1.1.tr o2.vg) z2 ?_))⟩
  rw [z_of64, y4]
  omega
theorem cvX.b (h : cvX D k) (hR : mdR D) : xnu D k < 1000000 := by
  obtain ⟨κ, h1, h2, h3⟩ := h
  have b1 := hR.ib (κ := κ)
  have b2 := (hR.2.2.2.1 (3 + κ) (by omega)).1
  omega
theorem rA.V (hA : rA own mm A h F v DM len rl K) (hm : m < vN v 5) : MV0 (DM m) := (hA.I.2.1 m hm).2.2.2.2.1
theorem m_isExport {x1 x2 : Int32} (hA : rA own mm A h F v DM len rl K) (h0 : Qr 0 (mH h F mm v)) (h1 : ∀ i k m : Nat, x1.toInt = i → i < vN v 30 → x2.toInt = k → (F (A 31) i).toInt = m → m < vN v 5 → k < qt (DM m) 7 → Qr 1 (mH h F mm v)) : w_M_isExport mm x1 x2 (mH h F mm v) Qr := by
  have hB := hA.B
  have n30 := (hA.n (k := 30) (b := 24) (by decide)).2
  obtain ⟨a1, a2, a3, a4⟩ := hB.kx (k := 31) (kd := 102) (n := 24) (by decide) (by decide)
  unfold w_M_isExport w_M_isExport_L32 w_M_isExport_L33
  refine ⟨hB.2.1, m_isInstance hA (fun _ => ⟨fun _ => ⟨.inl rfl, h0⟩, fun h9 => absurd rfl h9⟩) (fun i e1 e2 _ => ⟨fun _ => ⟨.inl rfl, h0⟩, fun _ => ⟨fun _ => ⟨.inl rfl, h0⟩, fun hx => ⟨A 31, a1, a2, ?_, ?_⟩⟩⟩)⟩
  · rw [z_in, e1]
    show _ ∧ _ < ((xb_n h (A 31) : Nat) : Int)
    omega
  · obtain ⟨m, m1, m2⟩ := hA.mo e2
    rw [mH_o a4, z_cl, e1, Int.toNat_natCast]
    refine m_manyOf (hA.X m2) m1 (s := 7) rfl (by decide) (fun r hr _ => ⟨fun _ => ⟨.inl rfl, h0⟩, fun hle => ⟨.inr rfl, h1 i x2.toInt.toNat m e1 e2 ?_ m1 m2 ?_⟩⟩)
    · rw [z_lt] at hx
      simp only [Int32.reduceToInt] at hx
      omega
    · rw [z_lt] at hx
      rw [z_le, hr] at hle
      simp only [Int32.reduceToInt] at hx
      omega
theorem r_exported {x1 x2 x3 : Int32} (hA : rA own mm A h F v DM len rl (K + 1)) (hQ : ∀ r, rPq own mm A h F DM len rl K (Qr r)) : w_M_exported mm x1 x2 x3 (mH h F mm v) Qr := by
  have hB := hA.B
  have n30 := (hA.n (k := 30) (b := 24) (by decide)).2
  obtain ⟨a1, a2, a3, a4⟩ := hB.kx (k := 31) (kd := 102) (n := 24) (by decide) (by decide)
  have L24 : ∀ y0 : Int32, (y0 ≤ 0 → ∃ i k m : Nat, x1.toInt = i ∧ i < vN v 30 ∧ x2.toInt = k ∧ (F (A 31) i).toInt = m ∧ m < vN v 5 ∧ k < qt (DM m) 7) → w_M_exported_L24 Qr mm x1 x2 x3 y0 mm (mH h F mm v) := by
    intro y0 hy
    unfold w_M_exported_L24 w_M_exported_L78 w_M_exported_L126
    refine ⟨hB.2.1, fun h2 e2 => ?_⟩
    rw [mH_I] at e2
    subst e2
    have A0 : rA own mm A h F (va_up v 0 y0) DM len rl K := hA.dn.u (by decide)
    rw [mH_i, xh_up, if_pos rfl]
    refine ⟨hB.2.1, fun hle => ?_, fun _ => hQ 0 h F _ f0.rf A0⟩
    obtain ⟨i, k, m, y1, y2, y3, y4, y5, y6⟩ := hy hle
    have hX := hA.X y5
    have cx := (hA.V y5).2.2.2.1 k y6
    have cb := cx.b hX.2.2
    have fin : ∀ (r : Int32) (u : Nat → Int32), vg (va_up v 0 y0) u → u 17 = 0 → Qr r (mH h F mm u) := fun r u g1 g2 => hQ r h F u f0.rf (A0.vg g1 g2)
    refine ⟨A 31, a1, a2, ?_, fun v8 e8 => ?_⟩
    · rw [z_in, y1]
      show _ ∧ _ < ((xb_n h (A 31) : Nat) : Int)
      omega
    rw [mH_o a4, z_cl, y1, Int.toNat_natCast] at e8
    have e8' : v8.toInt = m := by rw [e8]; exact y4
    refine m_exportKind hX A0.z e8' y3 y6 (fun v1 k1 _ => m_exportNumber hX k1.2.2.2 e8' y3 y6 (by omega) (fun v2 r12 g2 z2 e12 _ => ⟨fun _ => ⟨fun ek => ?_, fun _ => fin 0 v2 (k1.1.tr g2) z2⟩, fun _ => ⟨fun _ => fin _ v2 (k1.1.tr g2) z2, fun _ => fin _ v2 (k1.1.tr g2) z2⟩⟩))
    have A2 := A0.vg (k1.1.tr g2) z2
    have e30 : vN v2 30 = vN v 30 := by
      unfold vN
      rw [(k1.1.tr g2) 30 (by decide) (by decide) (by decide) (by decide) (by decide), xh_up, if_neg (by decide)]
    obtain ⟨κ, c1, c2, c3⟩ := cx
    have eκ : κ = 0 := by
      rw [ek] at c2
      have : (0 : Int32).toInt = 0 := rfl
      omega
    subst eκ
    refine m_meant (k := xnu (DM m) k) A2 y1 (by rw [e30]; exact y2) (κ := 0) rfl (by decide) e12 y4 c3 (fun v3 r16 g g3 z3 e16 f0' _ _ _ _ => ?_)
    obtain ⟨o1, -, -⟩ := f0' rfl
    have A3 := A2.vg g3 z3
    have o3 : fnO v3 g := by
      unfold fnO vN at *
      rw [g3 43 (by decide) (by decide) (by decide) (by decide) (by decide)]
      exact o1
    have fin3 : ∀ (r : Int32) (u : Nat → Int32), vg v3 u → u 17 = 0 → Qr r (mH h F mm u) := fun r u g1 g2 => hQ r h F u f0.rf (A3.vg g1 g2)
    exact ⟨fun _ => m_resultTypeOf A3 e16 o3 (fun v4 r19 g4 z4 _ _ => ⟨fun _ => fin3 _ v4 g4 z4, fun _ => fin3 _ v4 g4 z4⟩), fun _ => m_parametersOf A3 e16 o3 (fun v4 r19 g4 z4 _ _ => fin3 _ v4 g4 z4)⟩
  have L23 : w_M_exported_L23 Qr mm x1 x2 x3 mm (mH h F mm v) := by
    unfold w_M_exported_L23
    exact L24 1 (fun h9 => absurd h9 (by decide))
  unfold w_M_exported
  exact ⟨hB.2.1, m_isExport hA (fun _ => ⟨fun _ => L23, fun h9 => absurd rfl h9⟩) (fun i k m y1 y2 y3 y4 y5 y6 _ => ⟨fun _ => L23, fun _ => ⟨fun _ => L23, fun _ => ⟨fun _ => L23, fun _ => L24 0 (fun _ => ⟨i, k, m, y1, y2, y3, y4, y5, y6⟩)⟩⟩⟩)⟩
theorem z_16 {x y : Int32} {g p : Nat} (h1 : x.toInt = g) (h2 : y.toInt = p) (hg : g < 24) (hp : p < 16) : (16 * x + y).toInt = (16 * g + p : Nat) := by
  rw [z_add, Int32.toInt_mul, z_bm, h1, h2]
  simp only [Int32.reduceToInt]
  omega
theorem z_65 {x y : Int32} {g p : Nat} (h1 : x.toInt = g) (h2 : y.toInt = p) (hg : g < 16) (hp : p < 65536) : (65536 * x + y).toInt = (65536 * g + p : Nat) := by
  rw [z_add, Int32.toInt_mul, z_bm, h1, h2]
  simp only [Int32.reduceToInt]
  omega
theorem z_65p {x : Int32} {g : Nat} (h1 : x.toInt = g) (hg : g ≤ 16) : (65536 * x).toInt = (65536 * g : Nat) := by
  rw [Int32.toInt_mul, z_bm, h1]
  simp only [Int32.reduceToInt]
  omega
theorem Z_65 {x : Int64} {w : Nat} (h : x.toInt = w) (hw : w < 1048576) : (Int64.toInt32 (x / 65536)).toInt = (w / 65536 : Nat) ∧ (Int64.toInt32 (x - x / 65536 * 65536)).toInt = (w % 65536 : Nat) := by
  have d1 : (x / 65536).toInt = (w / 65536 : Nat) := by
    rw [Int64.toInt_div_of_ne_right _ _ (by decide), h]
    show Int.tdiv (w : Int) 65536 = _
    rw [Int.tdiv_eq_ediv_of_nonneg (by omega)]
    omega
  obtain ⟨a, ha⟩ : ∃ a, a = w / 65536 := ⟨_, rfl⟩
  have hb : w % 65536 = w - 65536 * a := by omega
  rw [← ha] at d1 ⊢
  rw [hb]
  have ha2 : a < 16 := by omega
  have ha3 : 65536 * a ≤ w := by omega
  clear ha hb
  have d2 : (x / 65536 * 65536).toInt = (65536 * a : Nat) := by
    rw [Z_mul, d1, show (65536 : Int64).toInt = 65536 from rfl]
    omega
  refine ⟨?_, ?_⟩
  · rw [z_of64, d1]
    omega
  · have d3 : (x - x / 65536 * 65536).toInt = (w - 65536 * a : Nat) := by
      rw [Z_sub, h, d2]
      clear d1 d2 h
      omega
    obtain ⟨q, hq⟩ : ∃ q, q = w - 65536 * a := ⟨_, rfl⟩
    have hq2 : q < 1048576 := by omega
    rw [← hq] at d3 ⊢
    clear hq d1 d2 h ha2 ha3 hw
    rw [z_of64, d3]
    omega
/-- where a byte of a memory stands -/
theorem m_ofMemory {x1 : Int32} {x2 : Int64} {g pc w : Nat} (hA : rA own mm A h F v DM len rl K) (h1 : x1.toInt = g) (hg : g < vN v 52) (hpc : (F (A 54) g).toInt = pc) (h2 : x2.toInt = w) (hw : w < 65536 * pc) (hQ : ∀ (r : Int32) (p : Nat), r.toInt = p → p < 1048576 → Qr r (mH h F mm v)) : w_M_ofMemory mm x1 x2 (mH h F mm v) Qr := by
  have hB := hA.B
  obtain ⟨a1, a2, a3, a4⟩ := hB.kx (k := 56) (kd := 102) (n := 384) (by decide) (by decide)
  have n52 := (hA.n (k := 52) (b := 24) (by decide)).2
  have n53 := (hA.n (k := 53) (b := 16) (by decide)).2
  obtain ⟨-, -, -, w4, w5, -⟩ := hA.w4
  obtain ⟨pc', e1, e2⟩ := w4 g hg
  have ep : pc' = pc := by
    have : (F (A 54) g).toInt = pc' := e1
    omega
  subst ep
  obtain ⟨d2, d4⟩ := Z_65 h2 (by omega)
  have hp : w / 65536 < 16 := by omega
  obtain ⟨p, hp'⟩ : ∃ p, p = w / 65536 := ⟨_, rfl⟩
  rw [← hp'] at d2 hp
  have d3 := z_16 h1 d2 (by omega) hp
  have hq : w % 65536 < 65536 := Nat.mod_lt _ (by decide)
  obtain ⟨q, hq'⟩ : ∃ q, q = w % 65536 := ⟨_, rfl⟩
  rw [← hq'] at d4 hq
  clear hw hp' hq'
  unfold w_M_ofMemory
  intro v1 ev
  subst ev
  refine ⟨hB.2.1, A 56, a1, a2, ?_, ?_⟩
  · rw [z_in, d3]
    show _ ∧ _ < ((xb_n h (A 56) : Nat) : Int)
    omega
  · rw [mH_o a4, z_cl, d3, Int.toNat_natCast]
    obtain ⟨p1, p2⟩ := w5 (16 * g + p) (by omega)
    dsimp only at p1 p2
    obtain ⟨pp, hpp⟩ : ∃ pp : Nat, (F (A 56) (16 * g + p)).toInt = pp := ⟨_, (Int.toNat_of_nonneg p1).symm⟩
    have hpp2 : pp < 16 := by omega
    exact hQ _ (65536 * pp + q) (z_65 hpp d4 hpp2 hq) (by omega)
theorem m_byteAt {x1 : Int32} {x2 : Int64} {g pc w : Nat} (hA : rA own mm A h F v DM len rl K) (h1 : x1.toInt = g) (hg : g < vN v 52) (hpc : (F (A 54) g).toInt = pc) (h2 : x2.toInt = w) (hw : w < 65536 * pc) (hQ : ∀ r : Int32, Qr r (mH h F mm v)) : w_M_byteAt mm x1 x2 (mH h F mm v) Qr := by
  have hB := hA.B
  obtain ⟨a1, a2, a3, a4⟩ := hB.kx (k := 57) (kd := 100) (n := 1048576) (by decide) (by decide)
  unfold w_M_byteAt
  refine ⟨hB.2.1, A 57, a1, m_ofMemory hA h1 hg hpc h2 hw (fun r p e1 e2 _ => ⟨a2, ?_, hQ _⟩)⟩
  rw [z_in, e1]
  show _ ∧ _ < ((xb_n h (A 57) : Nat) : Int)
  omega
theorem m_storeByte {x1 x3 : Int32} {x2 : Int64} {g pc w : Nat} {Q : xb_H → Prop} (hA : rA own mm A h F v DM len rl K) (h1 : x1.toInt = g) (hg : g < vN v 52) (hpc : (F (A 54) g).toInt = pc) (h2 : x2.toInt = w) (hw : w < 65536 * pc) (hQ : ∀ w : Nat → Int32, Q (mH h (va_up F (A 57) w) mm v)) : w_M_storeByte mm x1 x2 x3 (mH h F mm v) Q := by
  have hB := hA.B
  obtain ⟨a1, a2, a3, a4⟩ := hB.kx (k := 57) (kd := 100) (n := 1048576) (by decide) (by decide)
  unfold w_M_storeByte
  refine ⟨hB.2.1, A 57, a1, m_ofMemory hA h1 hg hpc h2 hw (fun r p e1 e2 _ => ⟨a2, ?_, fun h7 e7 => ?_⟩)⟩
  · rw [z_in, e1]
    show _ ∧ _ < ((xb_n h (A 57) : Nat) : Int)
    omega
  · rw [mH_A a4] at e7
    subst e7
    exact hQ _
theorem rA.pc (hA : rA own mm A h F v DM len rl K) {g : Nat} (hg : g < vN v 52) : ∃ pc : Nat, (F (A 54) g).toInt = pc ∧ pc ≤ vN v 53 := hA.w4.2.2.2.1 g hg
theorem m_isByte {x1 x2 : Int32} (hA : rA own mm A h F v DM len rl K) (h0 : ∀ v', vg v v' → v' 17 = 0 → Qr 0 (mH h F mm v')) (h1 : ∀ (v' : Nat → Int32) (i w g pc : Nat), vg v v' → v' 17 = 0 → x1.toInt = i → i < vN v 30 → x2.toInt = w → (oV A F DM i 2).toInt = g → (F (A 54) g).toInt = pc → w < 65536 * pc → (∀ m : Nat, (F (A 31) i).toInt = m → 0 < iM (DM m) 2 + qt (DM m) (3 + 2)) → Qr 1 (mH h F mm v')) : w_M_isByte mm x1 x2 (mH h F mm v) Qr := by
  have hB := hA.B
  obtain ⟨a1, a2, a3, a4⟩ := hB.kx (k := 54) (kd := 102) (n := 24) (by decide) (by decide)
  have n52 := (hA.n (k := 52) (b := 24) (by decide)).2
  have n53 := (hA.n (k := 53) (b := 16) (by decide)).2
  unfold w_M_isByte w_M_isByte_L42 w_M_isByte_L43
  refine ⟨hB.2.1, m_isInstance hA (fun _ => ⟨fun h9 => absurd rfl h9, fun _ => h0 v vg.rf hA.z⟩) (fun i e1 e2 _ => ⟨fun _ => m_only (κ := 2) hA e1 e2 rfl (.inr rfl) (fun v' r g1 g2 hr _ => ⟨fun _ => ⟨.inl rfl, h0 v' g1 g2⟩, fun hn => ⟨fun _ => ⟨.inl rfl, h0 v' g1 g2⟩, fun hx => ?_⟩⟩), fun h9 => absurd h9 (by decide)⟩)⟩
  rcases hr with ⟨e9, -⟩ | ⟨g, y1, -, y3, y4, y5⟩
  · rw [e9] at hn
    exact absurd (by decide) hn
  · have hg := y3 rfl
    obtain ⟨pc, p1, p2⟩ := hA.pc hg
    have e65 : (65536 * F (A 54) g).toInt = (65536 * pc : Nat) := z_65p p1 (by omega)
    refine ⟨A 54, a1, a2, ?_, fun _ => ⟨.inl rfl, h0 v' g1 g2⟩, fun hle => ⟨.inr rfl, h1 v' i x2.toInt.toNat g pc g1 g2 e1 e2 ?_ (by rw [← y4]; exact y1) p1 ?_ y5⟩⟩
    · rw [z_in, y1]
      show _ ∧ _ < ((xb_n h (A 54) : Nat) : Int)
      omega
    · rw [z_lt] at hx
      simp only [Int32.reduceToInt] at hx
      omega
    · rw [mH_o a4, z_cl, y1, Int.toNat_natCast, z_le, e65] at hle
      rw [z_lt] at hx
      simp only [Int32.reduceToInt] at hx
      omega
theorem r_pages {x1 : Int32} (hA : rA own mm A h F v DM len rl (K + 1)) (hQ : ∀ r, rPq own mm A h F DM len rl K (Qr r)) : w_M_pages mm x1 (mH h F mm v) Qr := by
  have hB := hA.B
  obtain ⟨a1, a2, a3, a4⟩ := hB.kx (k := 54) (kd := 102) (n := 24) (by decide) (by decide)
  have n52 := (hA.n (k := 52) (b := 24) (by decide)).2
  have L14 : ∀ y0 : Int32, (y0 ≤ 0 → ∃ i : Nat, x1.toInt = i ∧ i < vN v 30) → w_M_pages_L14 Qr mm x1 y0 mm (mH h F mm v) := by
    intro y0 hy
    unfold w_M_pages_L14 w_M_pages_L47
    refine ⟨hB.2.1, fun h2 e2 => ?_⟩
    rw [mH_I] at e2
    subst e2
    have A0 : rA own mm A h F (va_up v 0 y0) DM len rl K := hA.dn.u (by decide)
    have e30 : ∀ k, k ≠ 0 → vN (va_up v 0 y0) k = vN v k := fun k hk => by
      unfold vN
      rw [xh_up, if_neg hk]
    rw [mH_i, xh_up, if_pos rfl]
    refine ⟨hB.2.1, fun hle => ?_, fun _ => hQ 0 h F _ f0.rf A0⟩
    obtain ⟨i, y1, y2⟩ := hy hle
    refine m_only (κ := 2) A0 y1 (by rw [e30 30 (by decide)]; exact y2) rfl (.inr rfl) (fun v' r g1 g2 hr _ => ⟨fun h0 => ⟨A 54, a1, a2, ?_, hQ _ h F v' f0.rf (A0.vg g1 g2)⟩, fun _ => hQ _ h F v' f0.rf (A0.vg g1 g2)⟩)
    rcases hr with ⟨e9, -⟩ | ⟨g, y1, -, y3, y4⟩
    · rw [e9] at h0
      exact absurd h0 (by decide)
    · have hg := y3 rfl
      rw [e30 52 (by decide)] at hg
      rw [z_in, y1]
      show _ ∧ _ < ((xb_n h (A 54) : Nat) : Int)
      omega
  unfold w_M_pages
  exact ⟨hB.2.1, m_isInstance hA (fun _ => ⟨fun _ => L14 1 (fun h9 => absurd h9 (by decide)), fun h9 => absurd rfl h9⟩) (fun i e1 e2 _ => ⟨fun h9 => absurd h9 (by decide), fun _ => L14 0 (fun _ => ⟨i, e1, e2⟩)⟩)⟩
theorem r_peek {x1 x2 : Int32} (hA : rA own mm A h F v DM len rl (K + 1)) (hQ : ∀ r, rPq own mm A h F DM len rl K (Qr r)) : w_M_peek mm x1 x2 (mH h F mm v) Qr := by
  have hB := hA.B
  have L15 : ∀ (u : Nat → Int32) (y0 : Int32), vg v u → u 17 = 0 → (y0 ≤ 0 → ∃ i w g pc : Nat, x1.toInt = i ∧ i < vN v 30 ∧ x2.toInt = w ∧ (oV A F DM i 2).toInt = g ∧ (F (A 54) g).toInt = pc ∧ w < 65536 * pc ∧ (∀ m : Nat, (F (A 31) i).toInt = m → 0 < iM (DM m) 2 + qt (DM m) (3 + 2))) → w_M_peek_L15 Qr mm x1 x2 y0 mm (mH h F mm u) := by
    intro u y0 gu zu hy
    unfold w_M_peek_L15 w_M_peek_L41
    refine ⟨hB.2.1, fun h2 e2 => ?_⟩
    rw [mH_I] at e2
    subst e2
    have A0 : rA own mm A h F (va_up u 0 y0) DM len rl K := (hA.dn.vg gu zu).u (by decide)
    have e30 : vN (va_up u 0 y0) 30 = vN v 30 := by
      unfold vN
      rw [xh_up, if_neg (by decide), gu 30 (by decide) (by decide) (by decide) (by decide) (by decide)]
    rw [mH_i, xh_up, if_pos rfl]
    refine ⟨hB.2.1, fun hle => ?_, fun _ => hQ 0 h F _ f0.rf A0⟩
    obtain ⟨i, w, g, pc, y1, y2, y3, y4, y5, y6, y7⟩ := hy hle
    refine m_only (κ := 2) A0 y1 (by rw [e30]; exact y2) rfl (.inr rfl) (fun v' r g1 g2 hr _ => ?_)
    have A1 := A0.vg g1 g2
    rcases hr with ⟨e9, z9⟩ | ⟨g', z1, -, z3, z4, -⟩
    · exfalso
      obtain ⟨m, m1, m2⟩ := hA.mo y2
      have z0 := z9 m m1
      have := y7 m m1
      omega
    · have eg : g' = g := by rw [← z4] at y4; omega
      subst eg
      have hg := z3 rfl
      have hg1 : g' < vN v' 52 := by
        unfold vN at *
        rw [g1 52 (by decide) (by decide) (by decide) (by decide) (by decide)]
        exact hg
      exact m_byteAt A1 z1 hg1 y5 (by rw [Z_of32]; exact y3) y6 (fun r _ => hQ r h F v' f0.rf A1)
  unfold w_M_peek
  exact ⟨hB.2.1, m_isByte hA (fun v' g1 g2 _ => ⟨fun _ => L15 v' 1 g1 g2 (fun h9 => absurd h9 (by decide)), fun h9 => absurd rfl h9⟩) (fun v' i w g pc g1 g2 y1 y2 y3 y4 y5 y6 y7 _ => ⟨fun h9 => absurd h9 (by decide), fun _ => L15 v' 0 g1 g2 (fun _ => ⟨i, w, g, pc, y1, y2, y3, y4, y5, y6, y7⟩)⟩)⟩
theorem r_poke {x1 x2 x3 : Int32} {Q : xb_H → Prop} (hA : rA own mm A h F v DM len rl (K + 1)) (hQ : rPq own mm A h F DM len rl K Q) : w_M_poke mm x1 x2 x3 (mH h F mm v) Q := by
  have hB := hA.B
  have L15 : ∀ (u : Nat → Int32) (y0 : Int32), vg v u → u 17 = 0 → (y0 = 0 → ∃ i w g pc : Nat, x1.toInt = i ∧ i < vN v 30 ∧ x2.toInt = w ∧ (oV A F DM i 2).toInt = g ∧ (F (A 54) g).toInt = pc ∧ w < 65536 * pc ∧ (∀ m : Nat, (F (A 31) i).toInt = m → 0 < iM (DM m) 2 + qt (DM m) (3 + 2))) → w_M_poke_L15 Q mm x1 x2 x3 y0 mm (mH h F mm u) := by
    intro u y0 gu zu hy
    unfold w_M_poke_L15 w_M_poke_L38
    refine ⟨hB.2.1, fun h2 e2 => ?_⟩
    rw [mH_I] at e2
    subst e2
    have A0 : rA own mm A h F (va_up u 0 y0) DM len rl K := (hA.dn.vg gu zu).u (by decide)
    have e30 : vN (va_up u 0 y0) 30 = vN v 30 := by
      unfold vN
      rw [xh_up, if_neg (by decide), gu 30 (by decide) (by decide) (by decide) (by decide) (by decide)]
    rw [mH_i, xh_up, if_pos rfl]
    refine ⟨hB.2.1, fun _ => hQ h F _ f0.rf A0, fun hle => ?_⟩
    obtain ⟨i, w, g, pc, y1, y2, y3, y4, y5, y6, y7⟩ := hy hle
    refine m_only (κ := 2) A0 y1 (by rw [e30]; exact y2) rfl (.inr rfl) (fun v' r g1 g2 hr _ => ?_)
    have A1 := A0.vg g1 g2
    rcases hr with ⟨e9, z9⟩ | ⟨g', z1, -, z3, z4, -⟩
    · exfalso
      obtain ⟨m, m1, m2⟩ := hA.mo y2
      have z0 := z9 m m1
      have := y7 m m1
      omega
    · have eg : g' = g := by rw [← z4] at y4; omega
      subst eg
      have hg := z3 rfl
      have hg1 : g' < vN v' 52 := by
        unfold vN at *
        rw [g1 52 (by decide) (by decide) (by decide) (by decide) (by decide)]
        exact hg
      exact m_storeByte A1 z1 hg1 y5 (by rw [Z_of32]; exact y3) y6 (fun w _ => hQ h _ v' (f0.aw (by rw [hB.o (by decide)]; omega)) (A1.aw (by decide) (by decide) (by decide) (by decide)))
  unfold w_M_poke
  exact ⟨hB.2.1, m_isByte hA (fun v' g1 g2 _ => ⟨fun _ => L15 v' 1 g1 g2 (fun h9 => absurd h9 (by decide)), fun h9 => absurd rfl h9⟩) (fun v' i w g pc g1 g2 y1 y2 y3 y4 y5 y6 y7 _ => ⟨fun h9 => absurd h9 (by decide), fun _ => L15 v' 0 g1 g2 (fun _ => ⟨i, w, g, pc, y1, y2, y3, y4, y5, y6, y7⟩)⟩)⟩
theorem r_variable {x1 x2 : Int32} {Ql : Int64 → xb_H → Prop} (hA : rA own mm A h F v DM len rl (K + 1)) (hQ : ∀ r, rPq own mm A h F DM len rl K (Ql r)) : w_M_variable mm x1 x2 (mH h F mm v) Ql := by
  have hB := hA.B
  obtain ⟨a1, a2, a3, a4⟩ := hB.kx (k := 61) (kd := 103) (n := 4096) (by decide) (by decide)
  obtain ⟨b1, b2, b3, b4⟩ := hB.kx (k := 31) (kd := 102) (n := 24) (by decide) (by decide)
  have n30 := (hA.n (k := 30) (b := 24) (by decide)).2
  have n58 := (hA.n (k := 58) (b := 4096) (by decide)).2
  have L35 : ∀ y0 : Int32, (y0 ≤ 0 → ∃ i m k : Nat, x1.toInt = i ∧ i < vN v 30 ∧ (F (A 31) i).toInt = m ∧ x2.toInt = k ∧ k < iM (DM m) 3 + qt (DM m) (3 + 3)) → w_M_variable_L35 Ql mm x1 x2 y0 mm (mH h F mm v) := by
    intro y0 hy
    unfold w_M_variable_L35 w_M_variable_L61
    refine ⟨hB.2.1, fun h2 e2 => ?_⟩
    rw [mH_I] at e2
    subst e2
    have A0 : rA own mm A h F (va_up v 0 y0) DM len rl K := hA.dn.u (by decide)
    have e30 : ∀ k, k ≠ 0 → vN (va_up v 0 y0) k = vN v k := fun k hk => by
      unfold vN
      rw [xh_up, if_neg hk]
    rw [mH_i, xh_up, if_pos rfl]
    refine ⟨hB.2.1, fun hle => ?_, fun _ => hQ 0 h F _ f0.rf A0⟩
    obtain ⟨i, m, k, y1, y2, y3, y4, y5⟩ := hy hle
    refine ⟨A 61, a1, m_meant (κ := 3) A0 y1 (by rw [e30 30 (by decide)]; exact y2) rfl (by decide) y4 y3 y5 (fun v' r g g1 g2 g3 _ _ _ g4 _ => ⟨a2, ?_, hQ _ h F v' f0.rf (A0.vg g1 g2)⟩)⟩
    obtain ⟨g5, -⟩ := g4 rfl
    rw [e30 58 (by decide)] at g5
    rw [z_in, g3]
    show _ ∧ _ < ((xb_n h (A 61) : Nat) : Int)
    omega
  have L34 : w_M_variable_L34 Ql mm x1 x2 mm (mH h F mm v) := by
    unfold w_M_variable_L34
    exact L35 1 (fun h9 => absurd h9 (by decide))
  unfold w_M_variable
  refine ⟨hB.2.1, m_isInstance hA (fun _ => ⟨fun _ => L34, fun h9 => absurd rfl h9⟩) (fun i e1 e2 _ => ⟨fun _ => L34, fun _ => ⟨fun _ => L34, fun hx => ⟨A 31, b1, b2, ?_, ?_⟩⟩⟩)⟩
  · rw [z_in, e1]
    show _ ∧ _ < ((xb_n h (A 31) : Nat) : Int)
    omega
  · obtain ⟨m, m1, m2⟩ := hA.mo e2
    rw [mH_o b4, z_cl, e1, Int.toNat_natCast]
    refine m_total (κ := 3) (hA.X m2) m1 rfl (by decide) (fun r hr _ => ⟨fun _ => L34, fun hle => L35 0 (fun _ => ⟨i, m, x2.toInt.toNat, e1, e2, m1, ?_, ?_⟩)⟩)
    · rw [z_lt] at hx
      simp only [Int32.reduceToInt] at hx
      omega
    · rw [z_lt] at hx
      rw [Z_le, hr, Z_of32] at hle
      simp only [Int32.reduceToInt] at hx
      omega
theorem r_element {x1 x2 : Int32} (hA : rA own mm A h F v DM len rl (K + 1)) (hQ : ∀ r, rPq own mm A h F DM len rl K (Qr r)) : w_M_element mm x1 x2 (mH h F mm v) Qr := by
  have hB := hA.B
  obtain ⟨a1, a2, a3, a4⟩ := hB.kx (k := 51) (kd := 102) (n := 16384) (by decide) (by decide)
  obtain ⟨b1, b2, b3, b4⟩ := hB.kx (k := 48) (kd := 102) (n := 24) (by decide) (by decide)
  obtain ⟨c1, c2, c3, c4⟩ := hB.kx (k := 44) (kd := 102) (n := 8192) (by decide) (by decide)
  obtain ⟨d1, d2, d3, d4⟩ := hB.kx (k := 10) (kd := 102) (n := 256) (by decide) (by decide)
  obtain ⟨e1, e2, e3, e4⟩ := hB.kx (k := 31) (kd := 102) (n := 24) (by decide) (by decide)
  obtain ⟨f1, f2, f3, f4⟩ := hB.kx (k := 45) (kd := 102) (n := 8192) (by decide) (by decide)
  obtain ⟨g1, g2, g3, g4⟩ := hB.kx (k := 49) (kd := 102) (n := 24) (by decide) (by decide)
  have n46 := (hA.n (k := 46) (b := 24) (by decide)).2
  have n47 := (hA.n (k := 47) (b := 16384) (by decide)).2
  obtain ⟨-, w2, w3, -⟩ := hA.w4
  have L43 : ∀ (u : Nat → Int32) (y0 x3 : Int32), vg v u → u 17 = 0 → (y0 ≤ 0 → ∃ t k tf tz : Nat, x3.toInt = t ∧ t < vN v 46 ∧ x2.toInt = k ∧ (F (A 48) t).toInt = tf ∧ (F (A 49) t).toInt = tz ∧ k < tz ∧ tf + tz ≤ vN v 47) → w_M_element_L43 Qr mm x2 x3 y0 mm (mH h F mm u) := by
    intro u y0 x3 gu zu hy
    unfold w_M_element_L43
    refine ⟨hB.2.1, fun h2 e2' => ?_⟩
    rw [mH_I] at e2'
    subst e2'
    have A0 : rA own mm A h F (va_up u 0 y0) DM len rl K := (hA.dn.vg gu zu).u (by decide)
    rw [mH_i, xh_up, if_pos rfl]
    have fin : ∀ r, Qr r (mH h F mm (va_up u 0 y0)) := fun r => hQ r h F _ f0.rf A0
    refine ⟨hB.2.1, fun hle => ?_, fun _ => fin 0⟩
    obtain ⟨t, k, tf, tz, y1, y2, y3, y4, y5, y6, y7⟩ := hy hle
    have ci : x3.toNatClampNeg = t := by rw [z_cl, y1]; omega
    have ei : (xb_i (mH h F mm (va_up u 0 y0)) (A 48) x3.toNatClampNeg + x2).toInt = (tf + k : Nat) := by
      rw [mH_o b4, ci]
      exact z_ad2 y4 y3 (by omega) (by omega)
    refine ⟨A 51, a1, A 48, b1, b2, ?_, a2, ?_, fun v11 e11 => ⟨fun hpos => ⟨fun hlt => ?_, fun _ => fin _⟩, fun _ => fin _⟩⟩
    · rw [z_in, y1]
      show _ ∧ _ < ((xb_n h (A 48) : Nat) : Int)
      omega
    · rw [z_in, ei]
      show _ ∧ _ < ((xb_n h (A 51) : Nat) : Int)
      omega
    · rw [mH_o a4, z_cl, ei, Int.toNat_natCast] at e11
      have hfv : ∃ f : Nat, v11.toInt = f ∧ f < vN v 43 := by
        have q3 := w3 (tf + k) (by omega)
        dsimp only at q3
        rcases q3 with z0 | ⟨f, z1, z2⟩
        · rw [e11, z0] at hpos
          exact absurd hpos (by decide)
        · have ef : v11.toInt = f := by
            rw [e11, z_sub, z1]
            have : f < 100004 := by
              rcases z2 with z2 | z2
              · have := (hA.n (k := 43) (b := 8192) (by decide)).2
                omega
              · omega
            simp only [Int32.reduceToInt]
            omega
          rw [z_lt, ef] at hlt
          simp only [Int32.reduceToInt] at hlt
          exact ⟨f, ef, z2.elim id (fun h => by omega)⟩
      obtain ⟨f, ef, hf⟩ := hfv
      obtain ⟨i, m, b, q1, q2, -, q3, q4, q5, q6, q7, -⟩ := hA.fn hf
      have m64 := (hA.X q4).2.1.1
      have cf : v11.toNatClampNeg = f := by rw [z_cl, ef]; omega
      refine ⟨A 44, c1, c2, ?_, A 10, d1, A 31, e1, A 44, c1, c2, ?_, e2, ?_, d2, ?_, A 45, f1, f2, ?_, fin _⟩
      · rw [z_in, ef]
        show _ ∧ _ < ((xb_n h (A 44) : Nat) : Int)
        omega
      · rw [z_in, ef]
        show _ ∧ _ < ((xb_n h (A 44) : Nat) : Int)
        omega
      · rw [z_in, mH_o c4, cf, q1]
        show _ ∧ _ < ((xb_n h (A 31) : Nat) : Int)
        omega
      · rw [z_in, mH_o c4, cf, z_cl, q1, Int.toNat_natCast, mH_o e4, Int32.toInt_mul, z_bm, q3]
        simp only [Int32.reduceToInt]
        show _ ∧ _ < ((xb_n h (A 10) : Nat) : Int)
        omega
      · rw [z_in, ef]
        show _ ∧ _ < ((xb_n h (A 45) : Nat) : Int)
        omega
  have L18 : ∀ (u : Nat → Int32) (y0 : Int32), vg v u → u 17 = 0 → (0 ≤ y0.toInt → ∃ t : Nat, y0.toInt = t ∧ t < vN v 46) → w_M_element_L18 Qr mm x2 y0 (mH h F mm u) := by
    intro u y0 gu zu hy
    have L42 : w_M_element_L42 Qr mm x2 y0 mm (mH h F mm u) := by
      unfold w_M_element_L42
      exact L43 u 1 y0 gu zu (fun h9 => absurd h9 (by decide))
    unfold w_M_element_L18
    refine ⟨fun _ => L42, fun h0 => ⟨fun _ => L42, fun h1 => ?_⟩⟩
    rw [z_lt] at h0 h1
    simp only [Int32.reduceToInt] at h0 h1
    obtain ⟨t, t1, t2⟩ := hy (by omega)
    obtain ⟨tf, tz, z1, z2, z3⟩ := w2 t t2
    refine ⟨hB.2.1, A 49, g1, g2, ?_, fun _ => L42, fun hle => L43 u 0 y0 gu zu (fun _ => ⟨t, x2.toInt.toNat, tf, tz, t1, t2, by omega, z1, z2, ?_, z3⟩)⟩
    · rw [z_in, t1]
      show _ ∧ _ < ((xb_n h (A 49) : Nat) : Int)
      omega
    · rw [mH_o g4, z_cl, t1, Int.toNat_natCast, z_le, show (F (A 49) t).toInt = tz from z2] at hle
      omega
  unfold w_M_element
  refine ⟨hB.2.1, m_isInstance hA (fun _ => ⟨fun _ => L18 v _ vg.rf hA.z (fun h9 => absurd h9 (by decide)), fun h9 => absurd rfl h9⟩) (fun i y1 y2 _ => ⟨fun h9 => absurd h9 (by decide), fun _ => m_only (κ := 1) hA y1 y2 rfl (.inl rfl) (fun v' r q1 q2 hr _ => L18 v' r q1 q2 (fun h9 => ?_))⟩)⟩
  rcases hr with ⟨e9, -⟩ | ⟨g, z1, z2, -⟩
  · rw [e9] at h9
    exact absurd h9 (by decide)
  · exact ⟨g, z1, z2 rfl⟩
end MI2
