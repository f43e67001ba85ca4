-- the reference: exports, memory, and the calls that look at them
section MI2
variable {own : Nat → Nat} {mm m i ip k f t : Nat} {A : Nat → Nat} {h h' h2 : xb_H} {F F' F2 : Nat → Nat → Int32} {v v' v2 : Nat → Int32} {D : zM} {DM : Nat → zM} {len rl K : Nat} {Qr : Int32 → xb_H → Prop}
theorem m_exportKind {x1 x2 : Int32} (hX : mX own mm A h F m D) (hz : v 17 = 0) (h1 : x1.toInt = m) (h2 : x2.toInt = k) (hk : k < qt D 7) (hQ : ∀ v', vk v v' D (xko D k + 1) → Qr (ub (qc D) (xko D k)) (mH h F mm v')) : w_M_exportKind mm x1 x2 (mH h F mm v) Qr := by
  obtain ⟨q, x, y1, y2, y3, y4, y5, y6, y7⟩ := hX.2.2.x7 hk
  have rb := rC_b y3
  unfold w_M_exportKind
  refine ⟨hX.1.2.1, m_placeOf hX h1 (s := 7) rfl (by decide) h2 hk (fun r e _ => m_go_k hX hz h1 e y5 (by omega) (fun v1 k1 _ => m_name_k hX.rd k1.2.2.1 k1.2.2.2 y1 (by omega) (fun v2 o2 z2 _ => m_next_k hX.rd (o2.P k1.2.2.1) z2 (by omega) (fun v3 o3 z3 _ => hQ v3 ((k1.go o2 z2).go o3 z3)))))⟩
theorem m_exportNumber {x1 x2 : Int32} (hX : mX own mm A h F m D) (hz : v 17 = 0) (h1 : x1.toInt = m) (h2 : x2.toInt = k) (hk : k < qt D 7) (hx : xnu D k < 2147483648) (hQ : ∀ (v' : Nat → Int32) (r : Int32), vg v v' → v' 17 = 0 → r.toInt = xnu D k → Qr r (mH h F mm v')) : w_M_exportNumber mm x1 x2 (mH h F mm v) Qr := by
  obtain ⟨q, x, y1, y2, y3, y4, y5, y6, y7⟩ := hX.2.2.x7 hk
  unfold w_M_exportNumber
  refine ⟨hX.1.2.1, m_exportKind hX hz h1 h2 hk (fun v1 k1 _ => m_count_k hX.rd k1.2.2.1 k1.2.2.2 y3 y6 (fun v2 o2 z2 _ => hQ v2 _ (k1.1.tr o2.vg) z2 ?_))⟩
  rw [z_of64, y4]
  omega
theorem cvX.b (h : cvX D k) (hR : mdR D) : xnu D k < 1000000 := by
  obtain ⟨κ, h1, h2, h3⟩ := h
  have b1 := hR.ib (κ := κ)
  have b2 := (hR.2.2.2.1 (3 + κ) (by omega)).1
  omega
theorem rA.V (hA : rA own mm A h F v DM len rl K) (hm : m < vN v 5) : MV0 (DM m) := (hA.I.2.1 m hm).2.2.2.2.1
/-- numbers after a call: its mark, and what reading leaves -/
def vz (v u : Nat → Int32) (c : Int32) : Prop := (∀ j, j ≠ 0 → j ≠ 14 → j ≠ 15 → j ≠ 16 → j ≠ 17 → j ≠ 18 → u j = v j) ∧ u 0 = c ∧ u 17 = 0
theorem vz.a {c : Int32} (g : vg v v') (hz : v' 17 = 0) : vz v (va_up v' 0 c) c := ⟨fun j h0 h1 h2 h3 h4 h5 => by rw [xh_up, if_neg h0]; exact g j h1 h2 h3 h4 h5, by rw [xh_up, if_pos rfl], by rw [xh_up, if_neg (by decide)]; exact hz⟩
theorem vz.g {c : Int32} (h9 : vz v v' c) (g : vg v' v2) (hz : v2 17 = 0) : vz v v2 c := ⟨fun j h0 h1 h2 h3 h4 h5 => by rw [g j h1 h2 h3 h4 h5]; exact h9.1 j h0 h1 h2 h3 h4 h5, by rw [g 0 (by decide) (by decide) (by decide) (by decide) (by decide)]; exact h9.2.1, hz⟩
theorem m_isExport {x1 x2 : Int32} (hA : rA own mm A h F v DM len rl K) (h0 : (byd (vN v 30) x1 ∨ ∃ i m : Nat, x1.toInt = i ∧ i < vN v 30 ∧ (F (A 31) i).toInt = m ∧ m < vN v 5 ∧ byd (qt (DM m) 7) x2) → Qr 0 (mH h F mm v)) (h1 : ∀ i k m : Nat, x1.toInt = i → i < vN v 30 → x2.toInt = k → (F (A 31) i).toInt = m → m < vN v 5 → k < qt (DM m) 7 → Qr 1 (mH h F mm v)) : w_M_isExport mm x1 x2 (mH h F mm v) Qr := by
  have hB := hA.B
  have n30 := (hA.n (k := 30) (b := 24) (by decide)).2
  obtain ⟨a1, a2, a3, a4⟩ := hB.kx (k := 31) (kd := 102) (n := 24) (by decide) (by decide)
  unfold w_M_isExport w_M_isExport_L32 w_M_isExport_L33
  refine ⟨hB.2.1, m_isInstance hA (fun hb _ => ⟨fun _ => ⟨.inl rfl, h0 (.inl hb)⟩, fun h9 => absurd rfl h9⟩) (fun i e1 e2 _ => ⟨fun h9 => absurd h9 (by decide), fun _ => ⟨fun hx => ⟨.inl rfl, h0 (.inr (by obtain ⟨m, m1, m2⟩ := hA.mo e2; exact ⟨i, m, e1, e2, m1, m2, .inl (z_lt.mp hx)⟩))⟩, fun hx => ⟨A 31, a1, a2, ?_, ?_⟩⟩⟩)⟩
  · rw [z_in, e1]
    show _ ∧ _ < ((xb_n h (A 31) : Nat) : Int)
    omega
  · obtain ⟨m, m1, m2⟩ := hA.mo e2
    rw [mH_o a4, z_cl, e1, Int.toNat_natCast]
    refine m_manyOf (hA.X m2) m1 (s := 7) rfl (by decide) (fun r hr _ => ⟨fun hle => ⟨.inl rfl, h0 (.inr ⟨i, m, e1, e2, m1, m2, .inr (by rw [z_le, hr] at hle; exact hle)⟩)⟩, fun hle => ⟨.inr rfl, h1 i x2.toInt.toNat m e1 e2 ?_ m1 m2 ?_⟩⟩)
    · rw [z_lt] at hx
      simp only [Int32.reduceToInt] at hx
      omega
    · rw [z_lt] at hx
      rw [z_le, hr] at hle
      simp only [Int32.reduceToInt] at hx
      omega
/-- what is told of an export -/
def xrV (A : Nat → Nat) (F : Nat → Nat → Int32) (DM : Nat → zM) (i m k j : Nat) (r : Int32) : Prop :=
  (j = 0 → r = ub (qc (DM m)) (xko (DM m) k)) ∧ (j = 1 → r.toInt = xnu (DM m) k) ∧ (2 ≤ j → (ub (qc (DM m)) (xko (DM m) k) ≠ 0 → r = 0) ∧ (ub (qc (DM m)) (xko (DM m) k) = 0 → (j = 2 → r.toInt = (fPl (fun k => F (A k)) DM (mnV A F DM i 0 (xnu (DM m) k))).length) ∧ (j = 3 → r = if fRt (fun k => F (A k)) DM (mnV A F DM i 0 (xnu (DM m) k)) = 64 then 0 else 1)))
theorem r_exported {x1 x2 x3 : Int32} (hA : rA own mm A h F v DM len rl (K + 1)) (hQ0 : ∀ (i k m j : Nat) (r : Int32), x1.toInt = i → i < vN v 30 → x2.toInt = k → (F (A 31) i).toInt = m → m < vN v 5 → k < qt (DM m) 7 → x3.toInt = j → j < 4 → xrV A F DM i m k j r → ∀ u : Nat → Int32, vz v u 0 → rA own mm A h F u DM len rl K → Qr r (mH h F mm u)) (hQ1 : ((byd (vN v 30) x1 ∨ ∃ i m : Nat, x1.toInt = i ∧ i < vN v 30 ∧ (F (A 31) i).toInt = m ∧ m < vN v 5 ∧ byd (qt (DM m) 7) x2) ∨ byd 4 x3) → ∀ u : Nat → Int32, vz v u 1 → rA own mm A h F u DM len rl K → Qr 0 (mH h F mm u)) : w_M_exported mm x1 x2 x3 (mH h F mm v) Qr := by
  have hB := hA.B
  have n30 := (hA.n (k := 30) (b := 24) (by decide)).2
  obtain ⟨a1, a2, a3, a4⟩ := hB.kx (k := 31) (kd := 102) (n := 24) (by decide) (by decide)
  have L24 : ∀ y0 : Int32, (y0 = 0 ∧ ∃ i k m j : Nat, x1.toInt = i ∧ i < vN v 30 ∧ x2.toInt = k ∧ (F (A 31) i).toInt = m ∧ m < vN v 5 ∧ k < qt (DM m) 7 ∧ x3.toInt = j ∧ j < 4) ∨ (y0 = 1 ∧ ((byd (vN v 30) x1 ∨ ∃ i m : Nat, x1.toInt = i ∧ i < vN v 30 ∧ (F (A 31) i).toInt = m ∧ m < vN v 5 ∧ byd (qt (DM m) 7) x2) ∨ byd 4 x3)) → w_M_exported_L24 Qr mm x1 x2 x3 y0 mm (mH h F mm v) := by
    intro y0 hy
    unfold w_M_exported_L24 w_M_exported_L78 w_M_exported_L126
    refine ⟨hB.2.1, fun h2 e2 => ?_⟩
    rw [mH_I] at e2
    subst e2
    have A0 : rA own mm A h F (va_up v 0 y0) DM len rl K := hA.dn.u (by decide)
    rw [mH_i, xh_up, if_pos rfl]
    rcases hy with ⟨ey, i, k, m, j, y1, y2, y3, y4, y5, y6, y7, y8⟩ | ⟨ey, hy1⟩
    rotate_left
    · subst ey
      exact ⟨hB.2.1, fun h9 => absurd h9 (by decide), fun _ => hQ1 hy1 _ (vz.a vg.rf hA.z) A0⟩
    subst ey
    refine ⟨hB.2.1, fun hle => ?_, fun h9 => absurd (by decide) h9⟩
    have hX := hA.X y5
    have cx := (hA.V y5).2.2.2.1 k y6
    have cb := cx.b hX.2.2
    have fin : ∀ (r : Int32) (u : Nat → Int32), vg (va_up v 0 0) u → u 17 = 0 → xrV A F DM i m k j r → Qr r (mH h F mm u) := fun r u g1 g2 g3 => hQ0 i k m j r y1 y2 y3 y4 y5 y6 y7 y8 g3 u ((vz.a (c := 0) vg.rf hA.z).g g1 g2) (A0.vg g1 g2)
    have x2 : 2 ≤ x3 ↔ 2 ≤ j := by
      rw [z_le, y7]
      simp only [Int32.reduceToInt]
      omega
    have x0 : x3 = 0 ↔ j = 0 := by
      rw [z_eq, y7]
      simp only [Int32.reduceToInt]
      omega
    have x22 : x3 = 2 ↔ j = 2 := by
      rw [z_eq, y7]
      simp only [Int32.reduceToInt]
      omega
    refine ⟨A 31, a1, a2, ?_, fun v8 e8 => ?_⟩
    · rw [z_in, y1]
      show _ ∧ _ < ((xb_n h (A 31) : Nat) : Int)
      omega
    rw [mH_o a4, z_cl, y1, Int.toNat_natCast] at e8
    have e8' : v8.toInt = m := by rw [e8]; exact y4
    refine m_exportKind hX A0.z e8' y3 y6 (fun v1 k1 _ => m_exportNumber hX k1.2.2.2 e8' y3 y6 (by omega) (fun v2 r12 g2 z2 e12 _ => ⟨fun h2x => ⟨fun ek => ?_, fun ek => fin 0 v2 (k1.1.tr g2) z2 ⟨fun e => by have := x2.mp h2x; omega, fun e => by have := x2.mp h2x; omega, fun _ => ⟨fun _ => rfl, fun e => absurd e ek⟩⟩⟩, fun h2x => ⟨fun hn0 => fin _ v2 (k1.1.tr g2) z2 ⟨fun e => absurd (x0.mpr e) hn0, fun _ => e12, fun e => absurd (x2.mpr e) h2x⟩, fun he0 => fin _ v2 (k1.1.tr g2) z2 ⟨fun _ => rfl, fun e => by have := x0.mp he0; omega, fun e => absurd (x2.mpr e) h2x⟩⟩⟩))
    have A2 := A0.vg (k1.1.tr g2) z2
    have e30 : vN v2 30 = vN v 30 := by
      unfold vN
      rw [(k1.1.tr g2) 30 (by decide) (by decide) (by decide) (by decide) (by decide), xh_up, if_neg (by decide)]
    obtain ⟨κ, c1, c2, c3⟩ := cx
    have eκ : κ = 0 := by
      rw [ek] at c2
      have : (0 : Int32).toInt = 0 := rfl
      omega
    subst eκ
    refine m_meantE (k := xnu (DM m) k) A2 y1 (by rw [e30]; exact y2) (κ := 0) rfl (by decide) e12 y4 c3 (fun v3 r16 g g3 z3 e16 emn f0' _ _ _ _ => ?_)
    obtain ⟨o1, -, -⟩ := f0' rfl
    have A3 := A2.vg g3 z3
    have o3 : fnO v3 g := by
      unfold fnO vN at *
      rw [g3 43 (by decide) (by decide) (by decide) (by decide) (by decide)]
      exact o1
    have j2 := x2.mp h2x
    have fin3 : ∀ (r : Int32) (u : Nat → Int32), vg v3 u → u 17 = 0 → (j = 2 → r.toInt = (fPl (fun k => F (A k)) DM g).length) → (j = 3 → r = if fRt (fun k => F (A k)) DM g = 64 then 0 else 1) → Qr r (mH h F mm u) := fun r u g1 g5 a1 a2 => fin r u ((k1.1.tr g2).tr (g3.tr g1)) g5 ⟨fun e => by omega, fun e => by omega, fun _ => ⟨fun e => absurd ek e, fun _ => ⟨fun e => by rw [← emn]; exact a1 e, fun e => by rw [← emn]; exact a2 e⟩⟩⟩
    refine ⟨fun hn2 => m_resultTypeOf A3 e16 o3 (fun v4 r19 g4 z4 er _ => ⟨fun hne => fin3 _ v4 g4 z4 (fun e => absurd (x22.mpr e) hn2) (fun _ => ?_), fun he => fin3 _ v4 g4 z4 (fun e => absurd (x22.mpr e) hn2) (fun _ => ?_)⟩), fun he2 => m_parametersOf A3 e16 o3 (fun v4 r19 g4 z4 er _ => fin3 _ v4 g4 z4 (fun _ => er) (fun e => by have := x22.mp he2; omega))⟩
    · rw [if_neg (fun e => hne (z_eq.mpr (by rw [er, e]; rfl)))]
    · rw [if_pos (by rw [← er, he]; rfl)]
  have L23 : ((byd (vN v 30) x1 ∨ ∃ i m : Nat, x1.toInt = i ∧ i < vN v 30 ∧ (F (A 31) i).toInt = m ∧ m < vN v 5 ∧ byd (qt (DM m) 7) x2) ∨ byd 4 x3) → w_M_exported_L23 Qr mm x1 x2 x3 mm (mH h F mm v) := by
    intro hb
    unfold w_M_exported_L23
    exact L24 1 (.inr ⟨rfl, hb⟩)
  unfold w_M_exported
  refine ⟨hB.2.1, m_isExport hA (fun hb _ => ⟨fun _ => L23 (.inl hb), fun h9 => absurd rfl h9⟩) (fun i k m y1 y2 y3 y4 y5 y6 _ => ⟨fun h9 => absurd h9 (by decide), fun _ => ⟨fun h9 => L23 (.inr (.inl (z_lt.mp h9))), fun h8 => ⟨fun h9 => L23 (.inr (.inr (z_le.mp h9))), fun h9 => L24 0 (.inl ⟨rfl, i, k, m, x3.toInt.toNat, y1, y2, y3, y4, y5, y6, ?_, ?_⟩)⟩⟩⟩)⟩
  · rw [z_lt] at h8
    simp only [Int32.reduceToInt] at h8
    omega
  · rw [z_lt] at h8
    rw [z_le] at h9
    simp only [Int32.reduceToInt] at h8 h9
    omega
theorem z_16 {x y : Int32} {g p : Nat} (h1 : x.toInt = g) (h2 : y.toInt = p) (hg : g < 24) (hp : p < 16) : (16 * x + y).toInt = (16 * g + p : Nat) := by
  rw [z_add, Int32.toInt_mul, z_bm, h1, h2]
  simp only [Int32.reduceToInt]
  omega
theorem z_65 {x y : Int32} {g p : Nat} (h1 : x.toInt = g) (h2 : y.toInt = p) (hg : g < 16) (hp : p < 65536) : (65536 * x + y).toInt = (65536 * g + p : Nat) := by
  rw [z_add, Int32.toInt_mul, z_bm, h1, h2]
  simp only [Int32.reduceToInt]
  omega
theorem z_65p {x : Int32} {g : Nat} (h1 : x.toInt = g) (hg : g ≤ 16) : (65536 * x).toInt = (65536 * g : Nat) := by
  rw [Int32.toInt_mul, z_bm, h1]
  simp only [Int32.reduceToInt]
  omega
theorem Z_65 {x : Int64} {w : Nat} (h : x.toInt = w) (hw : w < 1048576) : (Int64.toInt32 (x / 65536)).toInt = (w / 65536 : Nat) ∧ (Int64.toInt32 (x - x / 65536 * 65536)).toInt = (w % 65536 : Nat) := by
  have d1 : (x / 65536).toInt = (w / 65536 : Nat) := by
    rw [Int64.toInt_div_of_ne_right _ _ (by decide), h]
    show Int.tdiv (w : Int) 65536 = _
    rw [Int.tdiv_eq_ediv_of_nonneg (by omega)]
    omega
  obtain ⟨a, ha⟩ : ∃ a, a = w / 65536 := ⟨_, rfl⟩
  have hb : w % 65536 = w - 65536 * a := by omega
  rw [← ha] at d1 ⊢
  rw [hb]
  have ha2 : a < 16 := by omega
  have ha3 : 65536 * a ≤ w := by omega
  clear ha hb
  have d2 : (x / 65536 * 65536).toInt = (65536 * a : Nat) := by
    rw [Z_mul, d1, show (65536 : Int64).toInt = 65536 from rfl]
    omega
  refine ⟨?_, ?_⟩
  · rw [z_of64, d1]
    omega
  · have d3 : (x - x / 65536 * 65536).toInt = (w - 65536 * a : Nat) := by
      rw [Z_sub, h, d2]
      clear d1 d2 h
      omega
    obtain ⟨q, hq⟩ : ∃ q, q = w - 65536 * a := ⟨_, rfl⟩
    have hq2 : q < 1048576 := by omega
    rw [← hq] at d3 ⊢
    clear hq d1 d2 h ha2 ha3 hw
    rw [z_of64, d3]
    omega
/-- where a byte of a memory stands -/
theorem z_i8m (x : Int32) : (vp_nar .byte ((Int32.toInt8 x).toInt32)).toInt % 256 = x.toInt % 256 := by
  show ((Int32.toInt8 ((Int32.toInt8 x).toInt32)).toInt32).toInt % 256 = _
  rw [Int8.toInt_toInt32, Int32.toInt_toInt8, Int8.toInt_toInt32, Int32.toInt_toInt8]
  have e : ∀ y : Int, y.bmod (2 ^ 8) % 256 = y % 256 := fun y => by
    rw [Int.bmod_def]
    split <;> omega
  rw [e, e]
theorem m_ofMemory {x1 : Int32} {x2 : Int64} {g pc w : Nat} (hA : rA own mm A h F v DM len rl K) (h1 : x1.toInt = g) (hg : g < vN v 52) (hpc : (F (A 54) g).toInt = pc) (h2 : x2.toInt = w) (hw : w < 65536 * pc) (hQ : ∀ (r : Int32) (p : Nat), r.toInt = p → p < 1048576 → p = mpA (fun j => F (A 56) (16 * g + j)) w → Qr r (mH h F mm v)) : w_M_ofMemory mm x1 x2 (mH h F mm v) Qr := by
  have hB := hA.B
  obtain ⟨a1, a2, a3, a4⟩ := hB.kx (k := 56) (kd := 102) (n := 384) (by decide) (by decide)
  have n52 := (hA.n (k := 52) (b := 24) (by decide)).2
  have n53 := (hA.n (k := 53) (b := 16) (by decide)).2
  obtain ⟨-, -, -, w4, w5, -⟩ := hA.w4
  obtain ⟨pc', e1, e2⟩ := w4 g hg
  have ep : pc' = pc := by
    have : (F (A 54) g).toInt = pc' := e1
    omega
  subst ep
  obtain ⟨d2, d4⟩ := Z_65 h2 (by omega)
  have hp : w / 65536 < 16 := by omega
  obtain ⟨p, hp'⟩ : ∃ p, p = w / 65536 := ⟨_, rfl⟩
  rw [← hp'] at d2 hp
  have d3 := z_16 h1 d2 (by omega) hp
  have hq : w % 65536 < 65536 := Nat.mod_lt _ (by decide)
  obtain ⟨q, hq'⟩ : ∃ q, q = w % 65536 := ⟨_, rfl⟩
  rw [← hq'] at d4 hq
  have hmp : mpA (fun j => F (A 56) (16 * g + j)) w = 65536 * (F (A 56) (16 * g + p)).toInt.toNat + q := by
    unfold mpA
    rw [← hp', ← hq']
  clear hw hp' hq'
  unfold w_M_ofMemory
  intro v1 ev
  subst ev
  refine ⟨hB.2.1, A 56, a1, a2, ?_, ?_⟩
  · rw [z_in, d3]
    show _ ∧ _ < ((xb_n h (A 56) : Nat) : Int)
    omega
  · rw [mH_o a4, z_cl, d3, Int.toNat_natCast]
    obtain ⟨p1, p2⟩ := w5 (16 * g + p) (by omega)
    dsimp only at p1 p2
    obtain ⟨pp, hpp⟩ : ∃ pp : Nat, (F (A 56) (16 * g + p)).toInt = pp := ⟨_, (Int.toNat_of_nonneg p1).symm⟩
    have hpp2 : pp < 16 := by omega
    exact hQ _ (65536 * pp + q) (z_65 hpp d4 hpp2 hq) (by omega) (by rw [hmp, hpp]; rfl)
theorem m_byteAt {x1 : Int32} {x2 : Int64} {g pc w : Nat} (hA : rA own mm A h F v DM len rl K) (h1 : x1.toInt = g) (hg : g < vN v 52) (hpc : (F (A 54) g).toInt = pc) (h2 : x2.toInt = w) (hw : w < 65536 * pc) (hQ : ∀ r : Int32, r.toInt = (F (A 57) (mpA (fun j => F (A 56) (16 * g + j)) w)).toInt % 256 → Qr r (mH h F mm v)) : w_M_byteAt mm x1 x2 (mH h F mm v) Qr := by
  have hB := hA.B
  obtain ⟨a1, a2, a3, a4⟩ := hB.kx (k := 57) (kd := 100) (n := 1048576) (by decide) (by decide)
  unfold w_M_byteAt
  refine ⟨hB.2.1, A 57, a1, m_ofMemory hA h1 hg hpc h2 hw (fun r p e1 e2 e3 _ => ⟨a2, ?_, hQ _ (by rw [mH_o a4, z_255, z_cl, e1, Int.toNat_natCast, e3])⟩)⟩
  rw [z_in, e1]
  show _ ∧ _ < ((xb_n h (A 57) : Nat) : Int)
  omega
theorem m_storeByteE {x1 x3 : Int32} {x2 : Int64} {g pc w : Nat} {Q : xb_H → Prop} (hA : rA own mm A h F v DM len rl K) (h1 : x1.toInt = g) (hg : g < vN v 52) (hpc : (F (A 54) g).toInt = pc) (h2 : x2.toInt = w) (hw : w < 65536 * pc) (hQ : ∀ y : Int32, y.toInt % 256 = x3.toInt % 256 → Q (mH h (va_up F (A 57) (va_up (F (A 57)) (mpA (fun j => F (A 56) (16 * g + j)) w) y)) mm v)) : w_M_storeByte mm x1 x2 x3 (mH h F mm v) Q := by
  have hB := hA.B
  obtain ⟨a1, a2, a3, a4⟩ := hB.kx (k := 57) (kd := 100) (n := 1048576) (by decide) (by decide)
  unfold w_M_storeByte
  refine ⟨hB.2.1, A 57, a1, m_ofMemory hA h1 hg hpc h2 hw (fun r p e1 e2 e3 _ => ⟨a2, ?_, fun h7 e7 => ?_⟩)⟩
  · rw [z_in, e1]
    show _ ∧ _ < ((xb_n h (A 57) : Nat) : Int)
    omega
  · rw [mH_A a4, z_cl, e1, Int.toNat_natCast, e3] at e7
    subst e7
    exact hQ _ (z_i8m x3)
theorem m_storeByte {x1 x3 : Int32} {x2 : Int64} {g pc w : Nat} {Q : xb_H → Prop} (hA : rA own mm A h F v DM len rl K) (h1 : x1.toInt = g) (hg : g < vN v 52) (hpc : (F (A 54) g).toInt = pc) (h2 : x2.toInt = w) (hw : w < 65536 * pc) (hQ : ∀ w : Nat → Int32, Q (mH h (va_up F (A 57) w) mm v)) : w_M_storeByte mm x1 x2 x3 (mH h F mm v) Q :=
  m_storeByteE hA h1 hg hpc h2 hw (fun _ _ => hQ _)
theorem rA.pc (hA : rA own mm A h F v DM len rl K) {g : Nat} (hg : g < vN v 52) : ∃ pc : Nat, (F (A 54) g).toInt = pc ∧ pc ≤ vN v 53 := hA.w4.2.2.2.1 g hg
/-- no byte of an instance's memory -/
def ibT (A : Nat → Nat) (F : Nat → Nat → Int32) (DM : Nat → zM) (v : Nat → Int32) (x1 x2 : Int32) : Prop :=
  byd (vN v 30) x1 ∨ ∃ i : Nat, x1.toInt = i ∧ i < vN v 30 ∧ ((∀ m : Nat, (F (A 31) i).toInt = m → iM (DM m) 2 + qt (DM m) (3 + 2) = 0) ∨ ∃ g pc : Nat, (oV A F DM i 2).toInt = g ∧ (F (A 54) g).toInt = pc ∧ (∀ m : Nat, (F (A 31) i).toInt = m → 0 < iM (DM m) 2 + qt (DM m) (3 + 2)) ∧ (x2.toInt < 0 ∨ ((65536 * pc : Nat) : Int) ≤ x2.toInt))
theorem m_isByte {x1 x2 : Int32} (hA : rA own mm A h F v DM len rl K) (h0 : ibT A F DM v x1 x2 → ∀ v', vg v v' → v' 17 = 0 → Qr 0 (mH h F mm v')) (h1 : ∀ (v' : Nat → Int32) (i w g pc : Nat), vg v v' → v' 17 = 0 → x1.toInt = i → i < vN v 30 → x2.toInt = w → (oV A F DM i 2).toInt = g → (F (A 54) g).toInt = pc → w < 65536 * pc → (∀ m : Nat, (F (A 31) i).toInt = m → 0 < iM (DM m) 2 + qt (DM m) (3 + 2)) → Qr 1 (mH h F mm v')) : w_M_isByte mm x1 x2 (mH h F mm v) Qr := by
  have hB := hA.B
  obtain ⟨a1, a2, a3, a4⟩ := hB.kx (k := 54) (kd := 102) (n := 24) (by decide) (by decide)
  have n52 := (hA.n (k := 52) (b := 24) (by decide)).2
  have n53 := (hA.n (k := 53) (b := 16) (by decide)).2
  unfold w_M_isByte w_M_isByte_L42 w_M_isByte_L43
  refine ⟨hB.2.1, m_isInstance hA (fun hb _ => ⟨fun h9 => absurd rfl h9, fun _ => h0 (.inl hb) v vg.rf hA.z⟩) (fun i e1 e2 _ => ⟨fun _ => m_only (κ := 2) hA e1 e2 rfl (.inr rfl) (fun v' r g1 g2 hr _ => ?_), fun h9 => absurd h9 (by decide)⟩)⟩
  rcases hr with ⟨e9, z9⟩ | ⟨g, y1, -, y3, y4, y5⟩
  · refine ⟨fun _ => ⟨.inl rfl, h0 (.inr ⟨i, e1, e2, .inl z9⟩) v' g1 g2⟩, fun hn => ?_⟩
    rw [e9] at hn
    exact absurd (by decide) hn
  · have hg := y3 rfl
    obtain ⟨pc, p1, p2⟩ := hA.pc hg
    have e65 : (65536 * F (A 54) g).toInt = (65536 * pc : Nat) := z_65p p1 (by omega)
    have why : (x2.toInt < 0 ∨ ((65536 * pc : Nat) : Int) ≤ x2.toInt) → ibT A F DM v x1 x2 := fun h9 => .inr ⟨i, e1, e2, .inr ⟨g, pc, by rw [← y4]; exact y1, p1, y5, h9⟩⟩
    refine ⟨fun hneg => ?_, fun hn => ⟨fun hx => ⟨.inl rfl, h0 (why (.inl (z_lt.mp hx))) v' g1 g2⟩, fun hx => ?_⟩⟩
    · rw [z_lt, y1] at hneg
      simp only [Int32.reduceToInt] at hneg
      omega
    refine ⟨A 54, a1, a2, ?_, fun hle => ⟨.inl rfl, h0 (why (.inr (by rw [mH_o a4, z_cl, y1, Int.toNat_natCast, z_le, e65] at hle; exact hle))) v' g1 g2⟩, fun hle => ⟨.inr rfl, h1 v' i x2.toInt.toNat g pc g1 g2 e1 e2 ?_ (by rw [← y4]; exact y1) p1 ?_ y5⟩⟩
    · rw [z_in, y1]
      show _ ∧ _ < ((xb_n h (A 54) : Nat) : Int)
      omega
    · rw [z_lt] at hx
      simp only [Int32.reduceToInt] at hx
      omega
    · rw [mH_o a4, z_cl, y1, Int.toNat_natCast, z_le, e65] at hle
      rw [z_lt] at hx
      simp only [Int32.reduceToInt] at hx
      omega
theorem r_pages {x1 : Int32} (hA : rA own mm A h F v DM len rl (K + 1)) (hQ0 : ∀ (i : Nat) (r : Int32), x1.toInt = i → i < vN v 30 → ((∀ m : Nat, (F (A 31) i).toInt = m → iM (DM m) 2 + qt (DM m) (3 + 2) = 0) ∧ r = -1) ∨ (∃ g : Nat, (oV A F DM i 2).toInt = g ∧ (∀ m : Nat, (F (A 31) i).toInt = m → 0 < iM (DM m) 2 + qt (DM m) (3 + 2)) ∧ r = F (A 54) g) → ∀ u : Nat → Int32, vz v u 0 → rA own mm A h F u DM len rl K → Qr r (mH h F mm u)) (hQ1 : byd (vN v 30) x1 → ∀ u : Nat → Int32, vz v u 1 → rA own mm A h F u DM len rl K → Qr 0 (mH h F mm u)) : w_M_pages mm x1 (mH h F mm v) Qr := by
  have hB := hA.B
  obtain ⟨a1, a2, a3, a4⟩ := hB.kx (k := 54) (kd := 102) (n := 24) (by decide) (by decide)
  have n52 := (hA.n (k := 52) (b := 24) (by decide)).2
  have L14 : ∀ y0 : Int32, (y0 = 0 ∧ ∃ i : Nat, x1.toInt = i ∧ i < vN v 30) ∨ (y0 = 1 ∧ byd (vN v 30) x1) → w_M_pages_L14 Qr mm x1 y0 mm (mH h F mm v) := by
    intro y0 hy
    unfold w_M_pages_L14 w_M_pages_L47
    refine ⟨hB.2.1, fun h2 e2 => ?_⟩
    rw [mH_I] at e2
    subst e2
    have A0 : rA own mm A h F (va_up v 0 y0) DM len rl K := hA.dn.u (by decide)
    have e30 : ∀ k, k ≠ 0 → vN (va_up v 0 y0) k = vN v k := fun k hk => by
      unfold vN
      rw [xh_up, if_neg hk]
    rw [mH_i, xh_up, if_pos rfl]
    rcases hy with ⟨ey, i, y1, y2⟩ | ⟨ey, hy1⟩
    rotate_left
    · subst ey
      exact ⟨hB.2.1, fun h9 => absurd h9 (by decide), fun _ => hQ1 hy1 _ (vz.a vg.rf hA.z) A0⟩
    subst ey
    refine ⟨hB.2.1, fun hle => ?_, fun h9 => absurd (by decide) h9⟩
    refine m_only (κ := 2) A0 y1 (by rw [e30 30 (by decide)]; exact y2) rfl (.inr rfl) (fun v' r g1 g2 hr _ => ?_)
    have uz := (vz.a (c := 0) vg.rf hA.z).g g1 g2
    have A1 := A0.vg g1 g2
    rcases hr with ⟨e9, z9⟩ | ⟨g, y1', -, y3, y4, y5⟩
    · refine ⟨fun h0 => ?_, fun _ => hQ0 i _ y1 y2 (.inl ⟨z9, rfl⟩) v' uz A1⟩
      rw [e9] at h0
      exact absurd h0 (by decide)
    · have cg : r.toNatClampNeg = g := by rw [z_cl, y1']; omega
      refine ⟨fun h0 => ⟨A 54, a1, a2, ?_, ?_⟩, fun hn => ?_⟩
      rotate_left
      · rw [mH_o a4, cg]
        exact hQ0 i _ y1 y2 (.inr ⟨g, by rw [← y4]; exact y1', y5, rfl⟩) v' uz A1
      · exfalso
        apply hn
        rw [z_le, y1']
        simp only [Int32.reduceToInt]
        omega
      have hg := y3 rfl
      rw [e30 52 (by decide)] at hg
      rw [z_in, y1']
      show _ ∧ _ < ((xb_n h (A 54) : Nat) : Int)
      omega
  unfold w_M_pages
  exact ⟨hB.2.1, m_isInstance hA (fun hb _ => ⟨fun _ => L14 1 (.inr ⟨rfl, hb⟩), fun h9 => absurd rfl h9⟩) (fun i e1 e2 _ => ⟨fun h9 => absurd h9 (by decide), fun _ => L14 0 (.inl ⟨rfl, i, e1, e2⟩)⟩)⟩
theorem r_peek {x1 x2 : Int32} (hA : rA own mm A h F v DM len rl (K + 1)) (hQ0 : ∀ (i w g pc : Nat) (r : Int32), x1.toInt = i → i < vN v 30 → x2.toInt = w → (oV A F DM i 2).toInt = g → (F (A 54) g).toInt = pc → w < 65536 * pc → (∀ m : Nat, (F (A 31) i).toInt = m → 0 < iM (DM m) 2 + qt (DM m) (3 + 2)) → r.toInt = (F (A 57) (mpA (fun j => F (A 56) (16 * g + j)) w)).toInt % 256 → ∀ u : Nat → Int32, vz v u 0 → rA own mm A h F u DM len rl K → Qr r (mH h F mm u)) (hQ1 : ibT A F DM v x1 x2 → ∀ u : Nat → Int32, vz v u 1 → rA own mm A h F u DM len rl K → Qr 0 (mH h F mm u)) : w_M_peek mm x1 x2 (mH h F mm v) Qr := by
  have hB := hA.B
  have L15 : ∀ (u : Nat → Int32) (y0 : Int32), vg v u → u 17 = 0 → (y0 = 0 ∧ ∃ i w g pc : Nat, x1.toInt = i ∧ i < vN v 30 ∧ x2.toInt = w ∧ (oV A F DM i 2).toInt = g ∧ (F (A 54) g).toInt = pc ∧ w < 65536 * pc ∧ (∀ m : Nat, (F (A 31) i).toInt = m → 0 < iM (DM m) 2 + qt (DM m) (3 + 2))) ∨ (y0 = 1 ∧ ibT A F DM v x1 x2) → w_M_peek_L15 Qr mm x1 x2 y0 mm (mH h F mm u) := by
    intro u y0 gu zu hy
    unfold w_M_peek_L15 w_M_peek_L41
    refine ⟨hB.2.1, fun h2 e2 => ?_⟩
    rw [mH_I] at e2
    subst e2
    have A0 : rA own mm A h F (va_up u 0 y0) DM len rl K := (hA.dn.vg gu zu).u (by decide)
    have e30 : vN (va_up u 0 y0) 30 = vN v 30 := by
      unfold vN
      rw [xh_up, if_neg (by decide), gu 30 (by decide) (by decide) (by decide) (by decide) (by decide)]
    rw [mH_i, xh_up, if_pos rfl]
    rcases hy with ⟨ey, i, w, g, pc, y1, y2, y3, y4, y5, y6, y7⟩ | ⟨ey, hy1⟩
    rotate_left
    · subst ey
      exact ⟨hB.2.1, fun h9 => absurd h9 (by decide), fun _ => hQ1 hy1 _ (vz.a gu zu) A0⟩
    subst ey
    refine ⟨hB.2.1, fun hle => ?_, fun h9 => absurd (by decide) h9⟩
    refine m_only (κ := 2) A0 y1 (by rw [e30]; exact y2) rfl (.inr rfl) (fun v' r g1 g2 hr _ => ?_)
    have A1 := A0.vg g1 g2
    rcases hr with ⟨e9, z9⟩ | ⟨g', z1, -, z3, z4, -⟩
    · exfalso
      obtain ⟨m, m1, m2⟩ := hA.mo y2
      have z0 := z9 m m1
      have := y7 m m1
      omega
    · have eg : g' = g := by rw [← z4] at y4; omega
      subst eg
      have hg := z3 rfl
      have hg1 : g' < vN v' 52 := by
        unfold vN at *
        rw [g1 52 (by decide) (by decide) (by decide) (by decide) (by decide)]
        exact hg
      exact m_byteAt A1 z1 hg1 y5 (by rw [Z_of32]; exact y3) y6 (fun r hr _ => hQ0 i w g' pc r y1 y2 y3 y4 y5 y6 y7 hr v' ((vz.a (c := 0) gu zu).g g1 g2) A1)
  unfold w_M_peek
  exact ⟨hB.2.1, m_isByte hA (fun hb v' g1 g2 _ => ⟨fun _ => L15 v' 1 g1 g2 (.inr ⟨rfl, hb⟩), fun h9 => absurd rfl h9⟩) (fun v' i w g pc g1 g2 y1 y2 y3 y4 y5 y6 y7 _ => ⟨fun h9 => absurd h9 (by decide), fun _ => L15 v' 0 g1 g2 (.inl ⟨rfl, i, w, g, pc, y1, y2, y3, y4, y5, y6, y7⟩)⟩)⟩
theorem r_poke {x1 x2 x3 : Int32} {Q : xb_H → Prop} (hA : rA own mm A h F v DM len rl (K + 1)) (hQ0 : ∀ (i w g pc : Nat) (y : Int32), x1.toInt = i → i < vN v 30 → x2.toInt = w → (oV A F DM i 2).toInt = g → (F (A 54) g).toInt = pc → w < 65536 * pc → (∀ m : Nat, (F (A 31) i).toInt = m → 0 < iM (DM m) 2 + qt (DM m) (3 + 2)) → y.toInt % 256 = x3.toInt % 256 → ∀ u : Nat → Int32, vz v u 0 → f0 own h F h (va_up F (A 57) (va_up (F (A 57)) (mpA (fun j => F (A 56) (16 * g + j)) w) y)) → rA own mm A h (va_up F (A 57) (va_up (F (A 57)) (mpA (fun j => F (A 56) (16 * g + j)) w) y)) u DM len rl K → Q (mH h (va_up F (A 57) (va_up (F (A 57)) (mpA (fun j => F (A 56) (16 * g + j)) w) y)) mm u)) (hQ1 : ibT A F DM v x1 x2 → ∀ u : Nat → Int32, vz v u 1 → rA own mm A h F u DM len rl K → Q (mH h F mm u)) : w_M_poke mm x1 x2 x3 (mH h F mm v) Q := by
  have hB := hA.B
  have L15 : ∀ (u : Nat → Int32) (y0 : Int32), vg v u → u 17 = 0 → (y0 = 0 ∧ ∃ i w g pc : Nat, x1.toInt = i ∧ i < vN v 30 ∧ x2.toInt = w ∧ (oV A F DM i 2).toInt = g ∧ (F (A 54) g).toInt = pc ∧ w < 65536 * pc ∧ (∀ m : Nat, (F (A 31) i).toInt = m → 0 < iM (DM m) 2 + qt (DM m) (3 + 2))) ∨ (y0 = 1 ∧ ibT A F DM v x1 x2) → w_M_poke_L15 Q mm x1 x2 x3 y0 mm (mH h F mm u) := by
    intro u y0 gu zu hy
    unfold w_M_poke_L15 w_M_poke_L38
    refine ⟨hB.2.1, fun h2 e2 => ?_⟩
    rw [mH_I] at e2
    subst e2
    have A0 : rA own mm A h F (va_up u 0 y0) DM len rl K := (hA.dn.vg gu zu).u (by decide)
    have e30 : vN (va_up u 0 y0) 30 = vN v 30 := by
      unfold vN
      rw [xh_up, if_neg (by decide), gu 30 (by decide) (by decide) (by decide) (by decide) (by decide)]
    rw [mH_i, xh_up, if_pos rfl]
    rcases hy with ⟨ey, i, w, g, pc, y1, y2, y3, y4, y5, y6, y7⟩ | ⟨ey, hy1⟩
    rotate_left
    · subst ey
      exact ⟨hB.2.1, fun _ => hQ1 hy1 _ (vz.a gu zu) A0, fun h9 => absurd h9 (by decide)⟩
    subst ey
    refine ⟨hB.2.1, fun h9 => absurd rfl h9, fun hle => ?_⟩
    refine m_only (κ := 2) A0 y1 (by rw [e30]; exact y2) rfl (.inr rfl) (fun v' r g1 g2 hr _ => ?_)
    have A1 := A0.vg g1 g2
    rcases hr with ⟨e9, z9⟩ | ⟨g', z1, -, z3, z4, -⟩
    · exfalso
      obtain ⟨m, m1, m2⟩ := hA.mo y2
      have z0 := z9 m m1
      have := y7 m m1
      omega
    · have eg : g' = g := by rw [← z4] at y4; omega
      subst eg
      have hg := z3 rfl
      have hg1 : g' < vN v' 52 := by
        unfold vN at *
        rw [g1 52 (by decide) (by decide) (by decide) (by decide) (by decide)]
        exact hg
      exact m_storeByteE A1 z1 hg1 y5 (by rw [Z_of32]; exact y3) y6 (fun y hy _ => hQ0 i w g' pc y y1 y2 y3 y4 y5 y6 y7 hy v' ((vz.a (c := 0) gu zu).g g1 g2) (f0.aw (by rw [hB.o (by decide)]; omega)) (A1.aw (by decide) (by decide) (by decide) (by decide)))
  unfold w_M_poke
  exact ⟨hB.2.1, m_isByte hA (fun hb v' g1 g2 _ => ⟨fun _ => L15 v' 1 g1 g2 (.inr ⟨rfl, hb⟩), fun h9 => absurd rfl h9⟩) (fun v' i w g pc g1 g2 y1 y2 y3 y4 y5 y6 y7 _ => ⟨fun h9 => absurd h9 (by decide), fun _ => L15 v' 0 g1 g2 (.inl ⟨rfl, i, w, g, pc, y1, y2, y3, y4, y5, y6, y7⟩)⟩)⟩
theorem r_variable {x1 x2 : Int32} {Ql : Int64 → xb_H → Prop} (hA : rA own mm A h F v DM len rl (K + 1)) (hQ0 : ∀ i m k : Nat, x1.toInt = i → i < vN v 30 → (F (A 31) i).toInt = m → x2.toInt = k → k < iM (DM m) 3 + qt (DM m) (3 + 3) → ∀ u : Nat → Int32, vz v u 0 → rA own mm A h F u DM len rl K → Ql (xb_l h (A 61) (mnV A F DM i 3 k)) (mH h F mm u)) (hQ1 : (byd (vN v 30) x1 ∨ ∃ i m : Nat, x1.toInt = i ∧ i < vN v 30 ∧ (F (A 31) i).toInt = m ∧ byd (iM (DM m) 3 + qt (DM m) (3 + 3)) x2) → ∀ u : Nat → Int32, vz v u 1 → rA own mm A h F u DM len rl K → Ql 0 (mH h F mm u)) : w_M_variable mm x1 x2 (mH h F mm v) Ql := by
  have hB := hA.B
  obtain ⟨a1, a2, a3, a4⟩ := hB.kx (k := 61) (kd := 103) (n := 4096) (by decide) (by decide)
  obtain ⟨b1, b2, b3, b4⟩ := hB.kx (k := 31) (kd := 102) (n := 24) (by decide) (by decide)
  have n30 := (hA.n (k := 30) (b := 24) (by decide)).2
  have n58 := (hA.n (k := 58) (b := 4096) (by decide)).2
  have L35 : ∀ y0 : Int32, (y0 = 0 ∧ ∃ i m k : Nat, x1.toInt = i ∧ i < vN v 30 ∧ (F (A 31) i).toInt = m ∧ x2.toInt = k ∧ k < iM (DM m) 3 + qt (DM m) (3 + 3)) ∨ (y0 = 1 ∧ (byd (vN v 30) x1 ∨ ∃ i m : Nat, x1.toInt = i ∧ i < vN v 30 ∧ (F (A 31) i).toInt = m ∧ byd (iM (DM m) 3 + qt (DM m) (3 + 3)) x2)) → w_M_variable_L35 Ql mm x1 x2 y0 mm (mH h F mm v) := by
    intro y0 hy
    unfold w_M_variable_L35 w_M_variable_L61
    refine ⟨hB.2.1, fun h2 e2 => ?_⟩
    rw [mH_I] at e2
    subst e2
    have A0 : rA own mm A h F (va_up v 0 y0) DM len rl K := hA.dn.u (by decide)
    have e30 : ∀ k, k ≠ 0 → vN (va_up v 0 y0) k = vN v k := fun k hk => by
      unfold vN
      rw [xh_up, if_neg hk]
    rw [mH_i, xh_up, if_pos rfl]
    rcases hy with ⟨ey, i, m, k, y1, y2, y3, y4, y5⟩ | ⟨ey, hy1⟩
    rotate_left
    · subst ey
      exact ⟨hB.2.1, fun h9 => absurd h9 (by decide), fun _ => hQ1 hy1 _ (vz.a vg.rf hA.z) A0⟩
    subst ey
    refine ⟨hB.2.1, fun hle => ?_, fun h9 => absurd (by decide) h9⟩
    refine ⟨A 61, a1, m_meantE (κ := 3) A0 y1 (by rw [e30 30 (by decide)]; exact y2) rfl (by decide) y4 y3 y5 (fun v' r g g1 g2 g3 emn _ _ _ g4 _ => ⟨a2, ?_, ?_⟩)⟩
    rotate_left
    · have := hQ0 i m k y1 y2 y3 y4 y5 v' ((vz.a (c := 0) vg.rf hA.z).g g1 g2) (A0.vg g1 g2)
      rw [z_cl, g3, Int.toNat_natCast, emn]
      exact this
    obtain ⟨g5, -⟩ := g4 rfl
    rw [e30 58 (by decide)] at g5
    rw [z_in, g3]
    show _ ∧ _ < ((xb_n h (A 61) : Nat) : Int)
    omega
  have L34 : (byd (vN v 30) x1 ∨ ∃ i m : Nat, x1.toInt = i ∧ i < vN v 30 ∧ (F (A 31) i).toInt = m ∧ byd (iM (DM m) 3 + qt (DM m) (3 + 3)) x2) → w_M_variable_L34 Ql mm x1 x2 mm (mH h F mm v) := by
    intro hb
    unfold w_M_variable_L34
    exact L35 1 (.inr ⟨rfl, hb⟩)
  unfold w_M_variable
  refine ⟨hB.2.1, m_isInstance hA (fun hb _ => ⟨fun _ => L34 (.inl hb), fun h9 => absurd rfl h9⟩) (fun i e1 e2 _ => ⟨fun h9 => absurd h9 (by decide), fun _ => ⟨fun hx => L34 (.inr (by obtain ⟨m, m1, m2⟩ := hA.mo e2; exact ⟨i, m, e1, e2, m1, .inl (z_lt.mp hx)⟩)), fun hx => ⟨A 31, b1, b2, ?_, ?_⟩⟩⟩)⟩
  · rw [z_in, e1]
    show _ ∧ _ < ((xb_n h (A 31) : Nat) : Int)
    omega
  · obtain ⟨m, m1, m2⟩ := hA.mo e2
    rw [mH_o b4, z_cl, e1, Int.toNat_natCast]
    refine m_total (κ := 3) (hA.X m2) m1 rfl (by decide) (fun r hr _ => ⟨fun hle => L34 (.inr ⟨i, m, e1, e2, m1, .inr (by rw [Z_le, hr, Z_of32] at hle; exact hle)⟩), fun hle => L35 0 (.inl ⟨rfl, i, m, x2.toInt.toNat, e1, e2, m1, ?_, ?_⟩)⟩)
    · rw [z_lt] at hx
      simp only [Int32.reduceToInt] at hx
      omega
    · rw [z_lt] at hx
      rw [Z_le, hr, Z_of32] at hle
      simp only [Int32.reduceToInt] at hx
      omega
theorem ev_a {e v : Int32} {f : Nat} (h1 : e.toInt = (f + 1 : Nat)) (hf : f < 100004) (hv : v = e - 1) : v.toInt = f := by
  rw [hv, z_sub, h1]
  simp only [Int32.reduceToInt]
  omega
theorem ev_b {v : Int32} {f : Nat} (h1 : v.toInt = f) (h2 : 100000 ≤ f) (hf : f < 100004) : ((2147418112 + v) - 100000).toInt = 2147418112 + ((f : Int) - 100000) := by
  rw [z_sub, z_add, h1]
  simp only [Int32.reduceToInt]
  omega
theorem ev_c {v : Int32} {f : Nat} (h1 : v.toInt = f) : 0 ≤ v := by
  rw [z_le, h1]
  simp only [Int32.reduceToInt]
  omega
theorem ev_d {v : Int32} {f : Nat} (h1 : v.toInt = f) (h2 : ¬ v < 100000) : 100000 ≤ f := by
  rw [z_lt, h1] at h2
  simp only [Int32.reduceToInt] at h2
  omega
theorem ev_e {x : Int32} {m : Nat} (h1 : x.toInt = m) (h2 : m < 64) : (4 * x).toInt = (4 * m : Nat) := by
  rw [Int32.toInt_mul, z_bm, h1]
  simp only [Int32.reduceToInt]
  omega
/-- what is told of an element -/
def erV (A : Nat → Nat) (F : Nat → Nat → Int32) (e r : Int32) : Prop :=
  (e = 0 ∧ r = -1) ∨ ∃ f : Nat, e.toInt = (f + 1 : Nat) ∧ ((f < 100000 ∧ ∃ i m : Nat, (F (A 44) f).toInt = i ∧ (F (A 31) i).toInt = m ∧ r = 65536 * F (A 44) f + F (A 10) (4 * m) + F (A 45) f) ∨ (100000 ≤ f ∧ r.toInt = 2147418112 + ((f : Int) - 100000)))
/-- no such element -/
def erT (A : Nat → Nat) (F : Nat → Nat → Int32) (DM : Nat → zM) (v : Nat → Int32) (x1 x2 : Int32) : Prop :=
  byd (vN v 30) x1 ∨ ∃ i : Nat, x1.toInt = i ∧ i < vN v 30 ∧ ((∀ m : Nat, (F (A 31) i).toInt = m → iM (DM m) 1 + qt (DM m) (3 + 1) = 0) ∨ ∃ t tz : Nat, (oV A F DM i 1).toInt = t ∧ (F (A 49) t).toInt = tz ∧ (∀ m : Nat, (F (A 31) i).toInt = m → 0 < iM (DM m) 1 + qt (DM m) (3 + 1)) ∧ byd tz x2)
theorem r_element {x1 x2 : Int32} (hA : rA own mm A h F v DM len rl (K + 1)) (hQ0 : ∀ (i t k tf tz : Nat) (r : Int32), x1.toInt = i → i < vN v 30 → (oV A F DM i 1).toInt = t → (∀ m : Nat, (F (A 31) i).toInt = m → 0 < iM (DM m) 1 + qt (DM m) (3 + 1)) → x2.toInt = k → (F (A 48) t).toInt = tf → (F (A 49) t).toInt = tz → k < tz → erV A F (F (A 51) (tf + k)) r → ∀ u : Nat → Int32, vz v u 0 → rA own mm A h F u DM len rl K → Qr r (mH h F mm u)) (hQ1 : erT A F DM v x1 x2 → ∀ u : Nat → Int32, vz v u 1 → rA own mm A h F u DM len rl K → Qr 0 (mH h F mm u)) : w_M_element mm x1 x2 (mH h F mm v) Qr := by
  have hB := hA.B
  obtain ⟨a1, a2, a3, a4⟩ := hB.kx (k := 51) (kd := 102) (n := 16384) (by decide) (by decide)
  obtain ⟨b1, b2, b3, b4⟩ := hB.kx (k := 48) (kd := 102) (n := 24) (by decide) (by decide)
  obtain ⟨c1, c2, c3, c4⟩ := hB.kx (k := 44) (kd := 102) (n := 8192) (by decide) (by decide)
  obtain ⟨d1, d2, d3, d4⟩ := hB.kx (k := 10) (kd := 102) (n := 256) (by decide) (by decide)
  obtain ⟨e1, e2, e3, e4⟩ := hB.kx (k := 31) (kd := 102) (n := 24) (by decide) (by decide)
  obtain ⟨f1, f2, f3, f4⟩ := hB.kx (k := 45) (kd := 102) (n := 8192) (by decide) (by decide)
  obtain ⟨g1, g2, g3, g4⟩ := hB.kx (k := 49) (kd := 102) (n := 24) (by decide) (by decide)
  have n46 := (hA.n (k := 46) (b := 24) (by decide)).2
  have n47 := (hA.n (k := 47) (b := 16384) (by decide)).2
  obtain ⟨-, w2, w3, -⟩ := hA.w4
  have L43 : ∀ (u : Nat → Int32) (y0 x3 : Int32), vg v u → u 17 = 0 → (y0 = 0 ∧ ∃ i t k tf tz : Nat, (x1.toInt = i ∧ i < vN v 30 ∧ (oV A F DM i 1).toInt = t ∧ ∀ m : Nat, (F (A 31) i).toInt = m → 0 < iM (DM m) 1 + qt (DM m) (3 + 1)) ∧ x3.toInt = t ∧ t < vN v 46 ∧ x2.toInt = k ∧ (F (A 48) t).toInt = tf ∧ (F (A 49) t).toInt = tz ∧ k < tz ∧ tf + tz ≤ vN v 47) ∨ (y0 = 1 ∧ erT A F DM v x1 x2) → w_M_element_L43 Qr mm x2 x3 y0 mm (mH h F mm u) := by
    intro u y0 x3 gu zu hy
    unfold w_M_element_L43
    refine ⟨hB.2.1, fun h2 e2' => ?_⟩
    rw [mH_I] at e2'
    subst e2'
    have A0 : rA own mm A h F (va_up u 0 y0) DM len rl K := (hA.dn.vg gu zu).u (by decide)
    rw [mH_i, xh_up, if_pos rfl]
    rcases hy with ⟨ey, i, t, k, tf, tz, ⟨s1, s2, s3, s4⟩, y1, y2, y3, y4, y5, y6, y7⟩ | ⟨ey, hy1⟩
    rotate_left
    · subst ey
      exact ⟨hB.2.1, fun h9 => absurd h9 (by decide), fun _ => hQ1 hy1 _ (vz.a gu zu) A0⟩
    subst ey
    have fin : ∀ r, erV A F (F (A 51) (tf + k)) r → Qr r (mH h F mm (va_up u 0 0)) := fun r hr => hQ0 i t k tf tz r s1 s2 s3 s4 y3 y4 y5 y6 hr _ (vz.a gu zu) A0
    refine ⟨hB.2.1, fun hle => ?_, fun h9 => absurd (by decide) h9⟩
    have ci : x3.toNatClampNeg = t := by rw [z_cl, y1]; omega
    have ei : (xb_i (mH h F mm (va_up u 0 0)) (A 48) x3.toNatClampNeg + x2).toInt = (tf + k : Nat) := by
      rw [mH_o b4, ci]
      exact z_ad2 y4 y3 (by omega) (by omega)
    have q3 := w3 (tf + k) (by omega)
    dsimp only at q3
    have hv11 : ∀ v11 : Int32, v11 = xb_i (mH h F mm (va_up u 0 0)) (A 51) (Int32.toNatClampNeg (xb_i (mH h F mm (va_up u 0 0)) (A 48) x3.toNatClampNeg + x2)) - 1 → (F (A 51) (tf + k) = 0 ∧ v11 = -1) ∨ ∃ f : Nat, (F (A 51) (tf + k)).toInt = (f + 1 : Nat) ∧ v11.toInt = f ∧ f < 100004 := fun v11 e11 => by
      rw [mH_o a4, z_cl, ei, Int.toNat_natCast] at e11
      rcases q3 with z0 | ⟨f, z1, z2⟩
      · refine .inl ⟨z0, ?_⟩
        rw [e11, z0]
        rfl
      · have hf4 : f < 100004 := by
          rcases z2 with z2 | z2
          · have := (hA.n (k := 43) (b := 8192) (by decide)).2
            omega
          · omega
        exact .inr ⟨f, z1, ev_a z1 hf4 e11, hf4⟩
    refine ⟨A 51, a1, A 48, b1, b2, ?_, a2, ?_, fun v11 e11 => ⟨fun hpos => ⟨fun hlt => ?_, fun hnl => fin _ ?_⟩, fun hneg => fin _ ?_⟩⟩
    rotate_left
    rotate_left
    rotate_left
    · rcases hv11 v11 e11 with ⟨z0, z1⟩ | ⟨f, z1, z2, z3⟩
      · rw [z1] at hpos
        exact absurd hpos (by decide)
      · exact .inr ⟨f, z1, .inr ⟨ev_d z2 hnl, ev_b z2 (ev_d z2 hnl) z3⟩⟩
    · rcases hv11 v11 e11 with ⟨z0, z1⟩ | ⟨f, z1, z2, z3⟩
      · exact .inl ⟨z0, rfl⟩
      · exact absurd (ev_c z2) hneg
    · rw [z_in, y1]
      show _ ∧ _ < ((xb_n h (A 48) : Nat) : Int)
      omega
    · rw [z_in, ei]
      show _ ∧ _ < ((xb_n h (A 51) : Nat) : Int)
      omega
    · rw [mH_o a4, z_cl, ei, Int.toNat_natCast] at e11
      have hfv : ∃ f : Nat, v11.toInt = f ∧ f < vN v 43 ∧ (F (A 51) (tf + k)).toInt = (f + 1 : Nat) := by
        rcases q3 with z0 | ⟨f, z1, z2⟩
        · rw [e11, z0] at hpos
          exact absurd hpos (by decide)
        · have ef : v11.toInt = f := by
            rw [e11, z_sub, z1]
            have : f < 100004 := by
              rcases z2 with z2 | z2
              · have := (hA.n (k := 43) (b := 8192) (by decide)).2
                omega
              · omega
            simp only [Int32.reduceToInt]
            omega
          rw [z_lt, ef] at hlt
          simp only [Int32.reduceToInt] at hlt
          exact ⟨f, ef, z2.elim id (fun h => by omega), z1⟩
      obtain ⟨f, ef, hf, ez⟩ := hfv
      obtain ⟨i', m, b, q1, q2, -, q3', q4, q5, q6, q7, -⟩ := hA.fn hf
      have m64 := (hA.X q4).2.1.1
      have cf : v11.toNatClampNeg = f := by rw [z_cl, ef]; omega
      have e4m : (4 * F (A 31) i').toInt = (4 * m : Nat) := ev_e q3' m64
      have c44 : (F (A 44) f).toNatClampNeg = i' := by rw [z_cl, q1]; omega
      have c4m : (4 * F (A 31) i').toNatClampNeg = 4 * m := by rw [z_cl, e4m]; omega
      refine ⟨A 44, c1, c2, ?_, A 10, d1, A 31, e1, A 44, c1, c2, ?_, e2, ?_, d2, ?_, A 45, f1, f2, ?_, fin _ (.inr ⟨f, ez, .inl ⟨by omega, i', m, q1, q3', ?_⟩⟩)⟩
      rotate_right
      · rw [mH_o c4, cf, c44, mH_o e4, c4m, mH_o d4, mH_o f4]
      · rw [z_in, ef]
        show _ ∧ _ < ((xb_n h (A 44) : Nat) : Int)
        omega
      · rw [z_in, ef]
        show _ ∧ _ < ((xb_n h (A 44) : Nat) : Int)
        omega
      · rw [z_in, mH_o c4, cf, q1]
        show _ ∧ _ < ((xb_n h (A 31) : Nat) : Int)
        omega
      · rw [z_in, mH_o c4, cf, z_cl, q1, Int.toNat_natCast, mH_o e4, e4m]
        show _ ∧ _ < ((xb_n h (A 10) : Nat) : Int)
        omega
      · rw [z_in, ef]
        show _ ∧ _ < ((xb_n h (A 45) : Nat) : Int)
        omega
  have L18 : ∀ (u : Nat → Int32) (y0 : Int32), vg v u → u 17 = 0 → (y0 = -1 ∧ erT A F DM v x1 x2) ∨ (∃ i t : Nat, (x1.toInt = i ∧ i < vN v 30 ∧ (oV A F DM i 1).toInt = t ∧ ∀ m : Nat, (F (A 31) i).toInt = m → 0 < iM (DM m) 1 + qt (DM m) (3 + 1)) ∧ y0.toInt = t ∧ t < vN v 46) → w_M_element_L18 Qr mm x2 y0 (mH h F mm u) := by
    intro u y0 gu zu hy
    have L42 : erT A F DM v x1 x2 → w_M_element_L42 Qr mm x2 y0 mm (mH h F mm u) := by
      intro hb
      unfold w_M_element_L42
      exact L43 u 1 y0 gu zu (.inr ⟨rfl, hb⟩)
    unfold w_M_element_L18
    rcases hy with ⟨ey, hy⟩ | ⟨i, t, ⟨s1, s2, s3, s4⟩, t1, t2⟩
    · refine ⟨fun _ => L42 hy, fun h0 => ?_⟩
      rw [ey] at h0
      exact absurd (by decide) h0
    obtain ⟨tf, tz, z1, z2, z3⟩ := w2 t t2
    have z2' : (F (A 49) t).toInt = tz := z2
    have why : byd tz x2 → erT A F DM v x1 x2 := fun h9 => .inr ⟨i, s1, s2, .inr ⟨t, tz, s3, z2', s4, h9⟩⟩
    refine ⟨fun h0 => ?_, fun h0 => ⟨fun h1 => L42 (why (.inl (z_lt.mp h1))), fun h1 => ?_⟩⟩
    · rw [z_lt, t1] at h0
      simp only [Int32.reduceToInt] at h0
      omega
    rw [z_lt] at h0 h1
    simp only [Int32.reduceToInt] at h0 h1
    refine ⟨hB.2.1, A 49, g1, g2, ?_, fun hle => L42 (why (.inr (by rw [mH_o g4, z_cl, t1, Int.toNat_natCast, z_le, z2'] at hle; exact hle))), fun hle => L43 u 0 y0 gu zu (.inl ⟨rfl, i, t, x2.toInt.toNat, tf, tz, ⟨s1, s2, s3, s4⟩, t1, t2, by omega, z1, z2, ?_, z3⟩)⟩
    · rw [z_in, t1]
      show _ ∧ _ < ((xb_n h (A 49) : Nat) : Int)
      omega
    · rw [mH_o g4, z_cl, t1, Int.toNat_natCast, z_le, show (F (A 49) t).toInt = tz from z2] at hle
      omega
  unfold w_M_element
  refine ⟨hB.2.1, m_isInstance hA (fun hb _ => ⟨fun _ => L18 v _ vg.rf hA.z (.inl ⟨rfl, .inl hb⟩), fun h9 => absurd rfl h9⟩) (fun i y1 y2 _ => ⟨fun h9 => absurd h9 (by decide), fun _ => m_only (κ := 1) hA y1 y2 rfl (.inl rfl) (fun v' r q1 q2 hr _ => L18 v' r q1 q2 ?_)⟩)⟩
  rcases hr with ⟨e9, z9⟩ | ⟨g, z1, z2, -, z4, z5⟩
  · exact .inl ⟨e9, .inr ⟨i, y1, y2, .inl z9⟩⟩
  · exact .inr ⟨i, g, ⟨y1, y2, by rw [← z4]; exact z1, z5⟩, z1, z2 rfl⟩
end MI2
