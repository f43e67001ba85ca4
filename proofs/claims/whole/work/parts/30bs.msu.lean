-- the reference: a run, an instruction; a trap noted
def nSt (op : Nat) : Prop := op = 1 ∨ op = 2 ∨ op = 3 ∨ op = 5 ∨ op = 11
/-- an instruction's outcome within its call, as calls -/
def uC (D : zM) (t f b nl : Nat) (r : List cX) : uZ → cZ
  | .inl (c', gs', a', w) => .inl ((f, b, nl, a', c', gs') :: r, 0, w)
  | .inr (.inl w) => .inl (rtC (tRt D t) r, (tp (tRt D t)).length, w)
  | .inr (.inr κ) => .inr κ
/-- a step: the world, the outcome -/
def stR (A : Nat → Nat) (F : Nat → Nat → Int32) (DM : Nat → zM) (D : zM) (t f b nl : Nat) (B : ctN) (ν0 : Nat → Int32) (op a : Nat) (c : List Int) (gs : List gF) (r : List cX) (ω most : Nat → Int64) (w w' : rWd) (z : cZ) : Prop :=
  (op < 16 → w' = w ∧ ∃ y : uZ, flR D t b nl B ν0 op a c gs ω y ∧ z = uC D t f b nl r y) ∧
  (16 ≤ op → op < 32 → cgR A F DM D f b nl B ν0 op a c gs r ω w w' z) ∧
  (32 ≤ op → op < 40 → ∃ (y : uZ) (u' : Nat → Int64), plR D b nl B ν0 op a c gs ω w.1 (mnV A F DM (F (A 44) f).toInt.toNat 3) y u' ∧ w' = (u', w.2) ∧ z = uC D t f b nl r y) ∧
  (40 ≤ op → op < 65 → ∃ y : uZ, mmR D b nl B op a c gs ω most (oV A F DM (F (A 44) f).toInt.toNat 2).toInt.toNat w w' y ∧ z = uC D t f b nl r y) ∧
  (65 ≤ op → op < 69 → w' = w ∧ ∃ x : Nat, B a x ∧ z = .inl ((f, b, nl, x, (192 - op) :: c, gs) :: r, 0, va_up ω (b + nl + c.length) (arV (192 - op) (ktV D op a)))) ∧
  (69 ≤ op → w' = w ∧ ∃ y : uZ, rkR b nl op a c gs ω y ∧ z = uC D t f b nl r y)
/-- how a trap is noted -/
def tnR (A : Nat → Nat) (F : Nat → Nat → Int32) (v : Nat → Int32) (x1 : Int32) (w : Nat → Int32) : Prop :=
  (v 82 = 0 → w = F (A 86)) ∧ (v 82 ≠ 0 → w 0 = v 82 ∧ ((v 68).toInt = 0 → w 1 = -1 ∧ w 2 = -1 ∧ w 3 = -1) ∧ ∀ k f iz mz : Nat, (v 68).toInt = (k + 1 : Nat) → (F (A 69) k).toInt = f → (F (A 44) f).toInt = iz → (F (A 31) iz).toInt = mz → w 1 = F (A 44) f ∧ w 2 = F (A 10) (4 * mz) + F (A 45) f ∧ w 3 = x1 - F (A 6) mz)
section MSU
variable {own : Nat → Nat} {mm m i ip k f t b nl o top q a o1 op base : Nat} {A : Nat → Nat} {h h' h2 : xb_H} {F F' F2 : Nat → Nat → Int32} {v v' v2 : Nat → Int32} {D : zM} {DM : Nat → zM} {len rl K : Nat} {Q : xb_H → Prop} {Qr : Int32 → xb_H → Prop} {Ql : Int64 → xb_H → Prop} {φ φ' : Nat → Nat → Int32} {ν ν' : Nat → Int32} {c c' ex pre : List Int} {gs g1 : List gF} {T p0 E : Nat} {lo ν0 ν1 cb : Nat → Int32} {G : ctG} {V : Nat → Prop} {rm y res : Int} {r cs : List cX} {nst : Prop} {x : Nat × Option Nat}
theorem n_isStep {x1 : Int32} {H : xb_H} (hx : x1.toInt = op) (hQ : ∀ r : Int32, (r = 0 ∧ nSt op) ∨ (r = 1 ∧ ¬ nSt op) → Qr r H) : w_M_isStep x1 H Qr := by
  unfold nSt at hQ
  have L20 : ¬ (op = 1 ∨ op = 2 ∨ op = 3 ∨ op = 5 ∨ op = 11) → w_M_isStep_L20 Qr H := fun h9 => by
    unfold w_M_isStep_L20 w_M_isStep_L25
    exact ⟨.inr rfl, hQ 1 (.inr ⟨rfl, h9⟩)⟩
  have L11 : op ≤ 5 ∨ op = 11 → w_M_isStep_L11 Qr x1 H := fun h9 => by
    unfold w_M_isStep_L11
    refine ⟨fun e => L20 ?_, fun n0 => ⟨fun n4 => ?_, fun e => L20 ?_⟩⟩
    · rw [z_eq, hx] at e
      simp only [Int32.reduceToInt] at e
      omega
    · unfold w_M_isStep_L25
      refine ⟨.inl rfl, hQ 0 (.inl ⟨rfl, ?_⟩)⟩
      have h0 : op ≠ 0 := fun e => n0 (by rw [z_eq, hx, e]; rfl)
      have h4 : op ≠ 4 := fun e => n4 (by rw [z_eq, hx, e]; rfl)
      omega
    · rw [z_eq, hx] at e
      simp only [Int32.reduceToInt] at e
      omega
  unfold w_M_isStep
  refine ⟨fun e => L11 ?_, fun e => ⟨fun n11 => L20 ?_, fun e11 => L11 ?_⟩⟩
  · rw [z_le, hx] at e
    simp only [Int32.reduceToInt] at e
    omega
  · rw [z_le, hx] at e
    have h11 : op ≠ 11 := fun e => n11 (by rw [z_eq, hx, e]; rfl)
    simp only [Int32.reduceToInt] at e
    omega
  · rw [z_eq, hx] at e11
    simp only [Int32.reduceToInt] at e11
    omega
theorem n_perform {x1 x2 x3 : Int32} (hX : uX own mm A h F v DM len rl K D t f b nl k o c gs T p0 E lo ν0 ν1 G V rm r) (hG : G 0 a c gs) (hr : rdP v (qb D) (a + 1) (qe D)) (h82 : v 82 = 0) (hx1 : x1.toInt = k) (hx2 : x2 = F (A 44) f) (hx3 : x3.toInt = op) (hop : (qc D a).toInt % 256 = op) (hv : vmk A h F)
    (hQ : ∀ (h' : xb_H) (F' : Nat → Nat → Int32) (v' : Nat → Int32) (w' : rWd) (z : cZ), pP own mm A DM len rl K (fun m => nSt op → m < 12000 - a + mu r) k f h F v h' F' v' w' z → stR A F DM D t f b nl (ct_B ν1 p0 E) ν0 op a c gs r (xb_l h (A 74)) (xb_l h (A 55)) (rwd A h F v) w' z → Q (mH h' F' mm v')) : w_M_perform mm x1 x2 x3 (mH h F mm v) Q := by
  have hB := hX.1.B
  have hl1 := hX.2.1.1
  have ha : a < 12000 := by
    obtain ⟨-, -, -, -, h1, h2, -⟩ := hX.ai hG hop
    obtain ⟨iz, mz, bz, y1, y2, y3, y4, y5, y6, y7, y8, y9, hM, hM2, hM3⟩ := hX.dX
    omega
  have hPm : ∀ n, True → (fun m => nSt op → m < 12000 - a + mu r) n ∨ True := fun _ _ => .inr trivial
  have L79 : ∀ (h' : xb_H) (F' : Nat → Nat → Int32) (v' : Nat → Int32) (w' : rWd) (y : uZ), uP own mm A DM len rl K D t f b nl k o T p0 E lo ν0 ν1 G V rm r a (nSt op) h F v h' F' v' w' y → stR A F DM D t f b nl (ct_B ν1 p0 E) ν0 op a c gs r (xb_l h (A 74)) (xb_l h (A 55)) (rwd A h F v) w' (uC D t f b nl r y) → w_M_perform_L79 Q mm x1 (mH h' F' mm v') := by
    intro h' F' v' w' y hu hst
    unfold w_M_perform_L79 w_M_perform_L104
    rw [mH_i]
    obtain ⟨p1, eW, hu⟩ := hu
    match y, hu, hst with
    | .inl (c', gs', a', ω'), hu, hst =>
      obtain ⟨hX1, e15, gg, e82, lt, eω⟩ := hu
      have hB1 := hX1.1.B
      have e68 := hX1.2.2.2.2.2.1.1
      obtain ⟨g70', k70', n70', m70'⟩ := hB1.kx (k := 70) (kd := 102) (n := 200) (by decide) (by decide)
      refine ⟨hB1.2.1, fun hle => ?_, fun _ => ⟨fun hn => absurd e82 hn, fun _ => ⟨A 70, g70', k70', z_vin hx1 n70' hl1, fun h7 e7 => ?_⟩⟩⟩
      · rw [z_le, e68, hx1] at hle
        omega
      · rw [mH_A m70', z_cl, hx1, Int.toNat_natCast] at e7
        subst e7
        have hgo := n_go (P := fun m => nSt op → m < 12000 - a + mu r) hX1 e15 gg e82 (fun h9 => by have := lt h9; omega)
        rw [eW, eω] at hgo
        exact hQ _ _ _ _ _ (pP.tr p1 hgo) hst
    | .inr (.inl ω'), hu, hst =>
      obtain ⟨u1, e82, e68, e76, eR, eω⟩ := hu
      have hk := hX.2.2.2.2.1
      have hrl : (rtC (tRt D t) r).length = r.length := by cases r <;> rfl
      have hmu : mu (rtC (tRt D t) r) = mu r := by cases r <;> rfl
      refine ⟨u1.B.2.1, fun _ => hQ _ _ _ w' (.inl (rtC (tRt D t) r, (tp (tRt D t)).length, ω')) ⟨p1, eW, ⟨u1, e82, ⟨by rw [e68, hrl, hk], fun e => ?_, fun e => ⟨_, _, e76.1, e76.2, eR (fun e9 => e (by rw [e9]; rfl))⟩⟩, eω⟩, fun cs n ω9 e _ h9 => ?_⟩ hst, fun hle => ?_⟩
      · have er : r = [] := by
          cases r with
          | nil => rfl
          | cons x r => cases e
        have hR := hX.2.2.2.1
        rw [er] at hR
        rw [e76.1, hR.1]
        congr 1
        omega
      · simp only [Sum.inl.injEq, Prod.mk.injEq] at e
        rw [← e.1, hmu]
        omega
      exfalso
      apply hle
      rw [z_le, e68, hx1]
      exact Int.le_refl _
    | .inr (.inr κ), hu, hst =>
      obtain ⟨u1, e82, eκ, h200, e68, e69, e43⟩ := hu
      have fin : Q (mH h' F' mm v') := hQ _ _ _ w' (.inr κ) ⟨p1, eW, ⟨u1, e82, eκ, h200, e68, e69, e43⟩, fun cs n ω9 e => by cases e⟩ hst
      exact ⟨u1.B.2.1, fun _ => fin, fun _ => ⟨fun _ => fin, fun e => absurd e (by rw [e82]; exact eκ)⟩⟩
  have no : 12 ≤ op → ¬ nSt op := fun h9 => by
    unfold nSt
    omega
  unfold w_M_perform
  refine ⟨fun h69 => ⟨fun h65 => ⟨fun h40 => ⟨fun h32 => ⟨fun h16 => ⟨hB.2.1, ?_⟩, fun h16 => ⟨hB.2.1, ?_⟩⟩, fun h32 => ⟨hB.2.1, ?_⟩⟩, fun h40 => ⟨hB.2.1, ?_⟩⟩, fun h65 => ⟨hB.2.1, ?_⟩⟩, fun h69 => ⟨hB.2.1, ?_⟩⟩
  · rw [z_lt, hx3] at h16
    simp only [Int32.reduceToInt] at h16
    exact n_flow hX hG hr h82 hx1 hx3 hop (by omega) (fun h' F' v' z hu hz _ => L79 h' F' v' _ z hu ⟨fun _ => ⟨rfl, z, hz, rfl⟩, fun e => by omega, fun e => by omega, fun e => by omega, fun e => by omega, fun e => by omega⟩)
  · rw [z_lt, hx3] at h16 h32
    simp only [Int32.reduceToInt] at h16 h32
    exact n_calling hX hG hr h82 hx1 hx2 hx3 hop (by omega) (by omega) hv (fun h' F' v' w' z hu hz _ => hQ h' F' v' w' z ⟨hu.1, hu.2.1, hu.2.2.1, fun _ _ _ _ _ h9 => absurd h9 (no (by omega))⟩ ⟨fun e => by omega, fun _ _ => hz, fun e => by omega, fun e => by omega, fun e => by omega, fun e => by omega⟩)
  · rw [z_lt, hx3] at h32 h40
    simp only [Int32.reduceToInt] at h32 h40
    have h36 : op ≤ 36 := by
      obtain ⟨-, -, -, -, -, -, hE3, -⟩ := hX.ai hG hop
      have h9 := wk_cases (op := (op : Int)) (by omega) (by omega) hE3
      omega
    exact n_ofPlace hX hG hr h82 hx1 hx2 hx3 hop (by omega) h36 (no (by omega)) hv (fun h' F' v' z u' hu hz _ => L79 h' F' v' _ z hu ⟨fun e => by omega, fun e => by omega, fun _ _ => ⟨z, u', hz, rfl, rfl⟩, fun e => by omega, fun e => by omega, fun e => by omega⟩)
  · rw [z_lt, hx3] at h40 h65
    simp only [Int32.reduceToInt] at h40 h65
    exact n_inMemory hX hG hr h82 hx2 hx3 hop (by omega) (by omega) (no (by omega)) (fun h' F' v' w' z hu hz _ => L79 h' F' v' _ z hu ⟨fun e => by omega, fun e => by omega, fun e => by omega, fun _ _ => ⟨z, hz, rfl⟩, fun e => by omega, fun e => by omega⟩)
  · rw [z_lt, hx3] at h65 h69
    simp only [Int32.reduceToInt] at h65 h69
    exact n_constantOf hX hG hr h82 hx3 hop (by omega) (by omega) (no (by omega)) (fun h' F' v' z hu ⟨x, hx, hz⟩ _ => L79 h' F' v' _ z hu ⟨fun e => by omega, fun e => by omega, fun e => by omega, fun e => by omega, fun _ _ => ⟨rfl, x, hx, by rw [hz]; rfl⟩, fun e => by omega⟩)
  · rw [z_lt, hx3] at h69
    simp only [Int32.reduceToInt] at h69
    exact n_reckon hX hG hr h82 hx3 hop (by omega) (no (by omega)) (fun h' F' v' z hu hz _ => L79 h' F' v' _ z hu ⟨fun e => by omega, fun e => by omega, fun e => by omega, fun e => by omega, fun e => by omega, fun _ => ⟨rfl, z, hz, rfl⟩⟩)
theorem vF_id {d : Nat} {w : Nat → Int32} (h9 : F d = w) : va_up F d w = F := by
  funext i
  rw [xh_up]
  split
  · next e => rw [e, h9]
  · rfl
/-- a trap is noted down -/
theorem n_noteTrap {x1 : Int32} (hA : rU own mm A h F v DM len rl K) (ht : v 82 ≠ 0 → (v 68).toInt = 0 ∨ ∃ k f : Nat, k < 200 ∧ (v 68).toInt = (k + 1 : Nat) ∧ (F (A 69) k).toInt = f ∧ f < vN v 43) (hQ : ∀ w : Nat → Int32, tnR A F v x1 w → Q (mH h (va_up F (A 86) w) mm v)) : w_M_noteTrap mm x1 (mH h F mm v) Q := by
  have hB := hA.B
  obtain ⟨g86, k86, n86, m86⟩ := hB.kx (k := 86) (kd := 102) (n := 4) (by decide) (by decide)
  unfold w_M_noteTrap
  rw [mH_i]
  refine ⟨hB.2.1, fun h82 => ⟨A 86, g86, k86, z_vin (k := 0) rfl n86 (by decide), fun h6 e6 => ?_⟩, fun h82 => ?_⟩
  · rw [mH_A m86] at e6
    subst e6
    have e86 : ∀ w : Nat → Int32, va_up F (A 86) w (A 86) = w := fun w => by rw [xh_up, if_pos rfl]
    have c0 : Int32.toNatClampNeg 0 = 0 := rfl
    have c1 : Int32.toNatClampNeg 1 = 1 := rfl
    have c2 : Int32.toNatClampNeg 2 = 2 := rfl
    have c3 : Int32.toNatClampNeg 3 = 3 := rfl
    have fk : ∀ (w : Nat → Int32) k, (∃ e ∈ aL, e.1 = k) → k ≠ 86 → va_up F (A 86) w (A k) = F (A k) := fun w k g1 g2 => by rw [xh_up, if_neg (hB.ne g1 (by decide) g2)]
    have last : ∀ (n : Nat) (w : Nat → Int32) (x2 : Int32), 4 ≤ x2.toInt → w 0 = v 82 → (∀ i, 1 ≤ i → i < 4 → w i = -1) → w_M_noteTrap_L20 Q (n + 1) mm x1 x2 (mH h (va_up F (A 86) w) mm v) := by
      intro n w x2 hx2 hw0 hwi
      unfold w_M_noteTrap_L20 w_M_noteTrap_L116
      rw [mH_i]
      refine ⟨fun _ => ⟨hB.2.1, fun hle0 => hQ w ⟨fun e => absurd e h82, fun _ => ⟨hw0, fun _ => ⟨hwi 1 (by decide) (by decide), hwi 2 (by decide) (by decide), hwi 3 (by decide) (by decide)⟩, fun k f iz mz g1 => ?_⟩⟩, fun hgt => ?_⟩, fun hle => ?_⟩
      · exfalso
        rw [z_le, g1] at hle0
        simp only [Int32.reduceToInt] at hle0
        omega
      · rcases ht h82 with h0 | ⟨k, f, h1, h2, h3, h4⟩
        · exfalso
          apply hgt
          rw [z_le, h0]
          decide
        · obtain ⟨iz, mz, bz, y1, y2, y3, y4, y5, y6, y7, y8, -⟩ := hA.fn h4
          have hX := hA.X y5
          have m64 := hX.2.1.1
          have e68 : (v 68 - 1).toInt = k := by
            rw [z_sub, h2]
            simp only [Int32.reduceToInt]
            omega
          obtain ⟨g69, k69, n69, m69⟩ := hB.kx (k := 69) (kd := 102) (n := 200) (by decide) (by decide)
          obtain ⟨g44, k44, n44, m44⟩ := hB.kx (k := 44) (kd := 102) (n := 8192) (by decide) (by decide)
          obtain ⟨g31, k31, n31, m31⟩ := hB.kx (k := 31) (kd := 102) (n := 24) (by decide) (by decide)
          obtain ⟨g10, k10, n10, m10⟩ := hB.kx (k := 10) (kd := 102) (n := 256) (by decide) (by decide)
          obtain ⟨g45, k45, n45, m45⟩ := hB.kx (k := 45) (kd := 102) (n := 8192) (by decide) (by decide)
          obtain ⟨g6, k6, n6, m6⟩ := hB.kx (k := 6) (kd := 102) (n := 64) (by decide) (by decide)
          refine ⟨A 69, g69, k69, z_vin e68 n69 h1, fun v7 e7 => ?_⟩
          rw [mH_o m69, z_cl, e68, Int.toNat_natCast, fk w 69 (by decide) (by decide)] at e7
          have h7 : v7.toInt = f := by rw [e7]; exact h3
          have c7 : v7.toNatClampNeg = f := by rw [z_cl, h7]; omega
          have e44 : xb_i (mH h (va_up F (A 86) w) mm v) (A 44) (v7.toNatClampNeg) = F (A 44) f := by rw [mH_o m44, c7, fk w 44 (by decide) (by decide)]
          have c44 : (F (A 44) f).toNatClampNeg = iz := by rw [z_cl, y1]; omega
          refine ⟨A 31, g31, A 44, g44, k44, z_vin h7 n44 y8, k31, by rw [e44]; exact z_vin y1 n31 y2, fun v14 e14 => ?_⟩
          rw [e44, mH_o m31, c44, fk w 31 (by decide) (by decide)] at e14
          have h14 : v14.toInt = mz := by rw [e14]; exact y4
          obtain ⟨e4m, c4m, q4m⟩ := z_4m h14 m64
          refine ⟨A 86, g86, A 44, g44, k44, z_vin h7 n44 y8, k86, z_vin (k := 1) rfl n86 (by decide), fun h21 e21 => ?_⟩
          rw [e44, mH_A m86, bx_uu, e86, c1] at e21
          subst e21
          refine ⟨A 86, g86, A 10, g10, k10, z_vin e4m n10 q4m, A 45, g45, k45, z_vin h7 n45 y8, k86, z_vin (k := 2) rfl n86 (by decide), fun h31 e31 => ?_⟩
          rw [mH_A m86, bx_uu, e86, c2, mH_o m10, c4m, fk _ 10 (by decide) (by decide), mH_o m45, c7, fk _ 45 (by decide) (by decide)] at e31
          subst e31
          refine ⟨A 86, g86, A 6, g6, k6, z_vin h14 n6 m64, k86, z_vin (k := 3) rfl n86 (by decide), fun h38 e38 => ?_⟩
          have c14 : v14.toNatClampNeg = mz := by rw [z_cl, h14]; omega
          rw [mH_A m86, bx_uu, e86, c3, mH_o m6, c14, fk _ 6 (by decide) (by decide)] at e38
          subst e38
          refine hQ _ ⟨fun e => absurd e h82, fun _ => ⟨?_, fun e => by omega, fun k2 f2 iz2 mz2 g1 g2 g3 g4 => ?_⟩⟩
          · rw [xh_up, if_neg (by decide), xh_up, if_neg (by decide), xh_up, if_neg (by decide)]
            exact hw0
          · have ek : k2 = k := by omega
            subst ek
            have ef2 : f2 = f := by omega
            subst ef2
            have ei2 : iz2 = iz := by omega
            subst ei2
            have em2 : mz2 = mz := by omega
            subst em2
            refine ⟨?_, ?_, ?_⟩
            · rw [xh_up, if_neg (by decide), xh_up, if_neg (by decide), xh_up, if_pos rfl]
            · rw [xh_up, if_neg (by decide), xh_up, if_pos rfl]
            · rw [xh_up, if_pos rfl]
      · exfalso
        apply hle
        rw [z_le]
        exact hx2
    have loop : ∀ (n : Nat) (w : Nat → Int32) (x2 : Int32), x2.toInt = 4 - (n : Int) → n ≤ 3 → w 0 = v 82 → (∀ i, 1 ≤ i → i < 4 - n → w i = -1) → w_M_noteTrap_L20 Q (n + 1) mm x1 x2 (mH h (va_up F (A 86) w) mm v) := by
      intro n
      induction n with
      | zero =>
        intro w x2 hx2 _ hw0 hwi
        exact last 0 w x2 (by omega) hw0 hwi
      | succ n ih =>
        intro w x2 hx2 hn hw0 hwi
        unfold w_M_noteTrap_L20
        refine ⟨fun hle => ?_, fun _ => ⟨hB.2.1, A 86, g86, k86, z_vin (k := 3 - n) (by rw [hx2]; omega) n86 (by omega), fun h43 e43 => ?_⟩⟩
        · rw [z_le, hx2] at hle
          simp only [Int32.reduceToInt] at hle
          omega
        · have c4 : x2.toNatClampNeg = 3 - n := by rw [z_cl, hx2]; omega
          rw [mH_A m86, bx_uu, e86, c4] at e43
          subst e43
          refine ih _ _ ?_ (by omega) (by rw [xh_up, if_neg (by omega)]; exact hw0) (fun i h1 h2 => ?_)
          rotate_left
          · rw [xh_up]
            split
            · rfl
            · exact hwi i h1 (by omega)
          rw [z_add, hx2]
          simp only [Int32.reduceToInt]
          omega
    exact ⟨4, loop 3 _ 1 rfl (by decide) (by rw [c0, xh_up, if_pos rfl]) (fun i h1 h2 => by omega)⟩
  · have := hQ (F (A 86)) ⟨fun _ => rfl, fun e => absurd h82 e⟩
    rw [vF_id rfl] at this
    exact this
/-- a call's state, as an instruction finds it -/
theorem n_uX {x : cX} (hA : rU own mm A h F v DM len rl K) (h68 : (v 68).toInt = (x :: r).length) (h76 : (v 76).toInt = top) (h81 : (v 81).toInt = o1) (hR : RC (fun k => F (A k)) v DM (x :: r) [] top o1) : ∃ (o T p0 E : Nat) (lo ν0 ν1 : Nat → Int32) (G : ctG) (V : Nat → Prop) (rm : Int), uX own mm A h F v DM len rl K (fMo (fun k => F (A k)) DM x.1) (fTy (fun k => F (A k)) DM x.1) x.1 x.2.1 x.2.2.1 r.length o x.2.2.2.2.1 x.2.2.2.2.2 T p0 E lo ν0 ν1 G V rm r ∧ G 0 x.2.2.2.1 x.2.2.2.2.1 x.2.2.2.2.2 ∧ (F (A 70) r.length).toInt = x.2.2.2.1 ∧ qb (fMo (fun k => F (A k)) DM x.1) ≤ x.2.2.2.1 := by
  obtain ⟨o, e1, ⟨c1, c2, ⟨c3, c4, c5, c6, c7⟩, c8, T, p0, E, lo, ν0, ν1, G, V, rm, b1, b2, b3, b4, b5, b6, b7, b8, b9⟩, e3⟩ := hR
  have b2' : G 0 x.2.2.2.1 x.2.2.2.2.1 x.2.2.2.2.2 := b2
  obtain ⟨B1, B2, B3, B4, B5, B6, B7, B8, B9⟩ := id b1
  obtain ⟨⟨d1, d2, d3, -⟩, -⟩ := B7.2.1 _ _ _ b2'
  refine ⟨o, T, p0, E, lo, ν0, ν1, G, V, rm, ⟨hA, ⟨c2, ⟨c3, c5, c6, c7⟩, ⟨b1, b3, b4⟩, b5, b6, b7, b8, b9⟩, ⟨rfl, rfl, c1⟩, e3, rfl, ⟨h68, by rw [h76, c8], by rw [h81, e1]⟩, by omega⟩, b2', c4, by have := B3.1; omega⟩
theorem mu_le : ∀ {cs : List cX}, mu cs ≤ 12000 * cs.length
  | [] => Nat.le_refl _
  | x :: r => by
    have := mu_le (cs := r)
    unfold mu
    simp only [List.length_cons]
    omega
theorem n_vv (hA : rU own mm A h F v DM len rl K) (hv : ∀ k, k ∈ vW1 → v' k = v k) : rU own mm A h F v' DM len rl K := n_ch hA f0.rf (n_eE hA f0.rf rfl (fun _ _ => rfl)) (hA.W1.c1 hv) (hA.I.2.cg (fun _ _ => rfl) (fun k hk => hv k ((by decide : ∀ k, k ∈ vRY → k ∈ vW1) k hk))) (hv 34 (by decide)) (hv 13 (by decide))
/-- noting a trap changes nothing else -/
theorem n_86 {w : Nat → Int32} (hA : rU own mm A h F v DM len rl K) : rU own mm A h (va_up F (A 86) w) v DM len rl K ∧ f0 own h F h (va_up F (A 86) w) ∧ (∀ cs n, rSt A F v DM cs n → rSt A (va_up F (A 86) w) v DM cs n) ∧ xB mm A h F h (va_up F (A 86) w) ∧ rwd A h (va_up F (A 86) w) v = rwd A h F v := by
  have hB := hA.B
  have fk : ∀ k, (∃ e ∈ aL, e.1 = k) → k ≠ 86 → va_up F (A 86) w (A k) = F (A k) := fun k g1 g2 => by rw [xh_up, if_neg (hB.ne g1 (by decide) g2)]
  have o86 := hB.o (k := 86) (by decide)
  have hf : f0 own h F h (va_up F (A 86) w) := f0.aw (by omega)
  have q1 : ∀ k, k ∈ aRY → (∃ e ∈ aL, e.1 = k) ∧ k ≠ 86 := by decide
  refine ⟨n_ch hA hf (n_eE hA hf (fk 90 (by decide) (by decide)) (fun a ha => by rw [xh_up, if_neg (fun e => by rw [e, o86] at ha; omega)])) hA.W1 (hA.I.2.cg (fun k hk => fk k (q1 k hk).1 (q1 k hk).2) (fun _ _ => rfl)) rfl rfl, hf, fun cs n ⟨a1, a2, a3⟩ => ⟨a1, a2, fun h9 => (a3 h9).imp (fun top ⟨opens, b1, b2, b3⟩ => ⟨opens, b1, b2, ?_⟩)⟩, ?_, ?_⟩
  rotate_left
  · have q : ∀ k, k ∈ kB → (∃ e ∈ aL, e.1 = k) ∧ k ≠ 86 := by decide
    exact ⟨fun k hk => fk k (q k hk).1 (q k hk).2, fun _ _ => rfl, rfl, fun h9 j => by rw [fk 75 (by decide) (by decide)]; exact h9 j⟩
  · unfold rwd
    rw [fk 57 (by decide) (by decide), fk 54 (by decide) (by decide), fk 56 (by decide) (by decide)]
  refine b3.fr (φ' := fun k => va_up F (A 86) w (A k)) (fk 31 (by decide) (by decide)) (fk 44 (by decide) (by decide)) (fk 45 (by decide) (by decide)) rfl (fun k hk j _ => ?_) (fun j _ => ?_) (fun k hk j _ => ?_)
  · have q : ∀ k, k ∈ [69, 70, 71, 72, 73] → (∃ e ∈ aL, e.1 = k) ∧ k ≠ 86 := by decide
    show va_up F (A 86) w (A k) j = F (A k) j
    rw [fk k (q k hk).1 (q k hk).2]
  · show va_up F (A 86) w (A 75) j = F (A 75) j
    rw [fk 75 (by decide) (by decide)]
  · have q : ∀ k, k ∈ [77, 78, 79, 80] → (∃ e ∈ aL, e.1 = k) ∧ k ≠ 86 := by decide
    show va_up F (A 86) w (A k) j = F (A k) j
    rw [fk k (q k hk).1 (q k hk).2]
end MSU
