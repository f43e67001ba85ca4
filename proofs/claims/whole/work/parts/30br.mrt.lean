-- the reference: a run, calling
/-- an instruction that calls, drops or chooses: the world, the outcome -/
def cgR (A : Nat → Nat) (F : Nat → Nat → Int32) (DM : Nat → zM) (D : zM) (f b nl : Nat) (B : ctN) (ν0 : Nat → Int32) (op a : Nat) (c : List Int) (gs : List gF) (r : List cX) (ω : Nat → Int64) (w w' : rWd) (z : cZ) : Prop :=
  (op = 26 → ∃ y c1, c = y :: c1 ∧ w' = w ∧ z = .inl ((f, b, nl, a + 1, c1, gs) :: r, 0, ω)) ∧
  (op = 27 → ∃ y c2, c = 127 :: y :: y :: c2 ∧ w' = w ∧ z = .inl ((f, b, nl, a + 1, y :: c2, gs) :: r, 0, va_up ω (b + nl + c2.length) (if ω (b + nl + c2.length + 2) = 0 then ω (b + nl + c2.length + 1) else ω (b + nl + c2.length)))) ∧
  (op = 16 → ∃ (i x : Nat) (c2 : List Int), (ν0 (a + 1)).toInt = i ∧ i < iM D 0 + qt D 3 ∧ B a x ∧ c = ptl (qc D) (tPa D (fty D i)) (tPn D (fty D i)) ++ c2 ∧ caR A F DM ((f, b, nl, x, c2, gs) :: r) (b + nl + c2.length) (mnV A F DM (F (A 44) f).toInt.toNat 0 i) ω w w' z) ∧
  (op = 17 → ∃ (u : Nat) (c2 : List Int) (e tf tz : Nat), (ν0 (a + 1)).toInt = u ∧ u < qt D 1 ∧ c = 127 :: (ptl (qc D) (tPa D u) (tPn D u) ++ c2) ∧ (ω (b + nl + (ptl (qc D) (tPa D u) (tPn D u) ++ c2).length) &&& 4294967295).toInt = e ∧ (F (A 48) (oV A F DM (F (A 44) f).toInt.toNat 1).toInt.toNat).toInt = tf ∧ (F (A 49) (oV A F DM (F (A 44) f).toInt.toNat 1).toInt.toNat).toInt = tz ∧
    ((tz ≤ e ∧ w' = w ∧ z = .inr 6) ∨ (e < tz ∧ F (A 51) (tf + e) = 0 ∧ w' = w ∧ z = .inr 7) ∨ (e < tz ∧ ∃ f' : Nat, (F (A 51) (tf + e)).toInt = (f' + 1 : Nat) ∧
      ((¬ (fPl (fun k => F (A k)) DM f' = ptl (qc D) (tPa D u) (tPn D u) ∧ fRt (fun k => F (A k)) DM f' = tRt D u) ∧ w' = w ∧ z = .inr 8) ∨ ((fPl (fun k => F (A k)) DM f' = ptl (qc D) (tPa D u) (tPn D u) ∧ fRt (fun k => F (A k)) DM f' = tRt D u) ∧ ∃ x : Nat, B a x ∧ caR A F DM ((f, b, nl, x, c2, gs) :: r) (b + nl + c2.length) f' ω w w' z)))))
section MRT
variable {own : Nat → Nat} {mm m i ip k f t b nl o top q a o1 op base : Nat} {A : Nat → Nat} {h h' h2 : xb_H} {F F' F2 : Nat → Nat → Int32} {v v' v2 : Nat → Int32} {D : zM} {DM : Nat → zM} {len rl K : Nat} {Q : xb_H → Prop} {Ql : Int64 → xb_H → Prop} {φ φ' : Nat → Nat → Int32} {ν ν' : Nat → Int32} {c c' ex pre : List Int} {gs g1 : List gF} {T p0 E : Nat} {lo ν0 ν1 cb : Nat → Int32} {G : ctG} {V : Nat → Prop} {rm y res : Int} {r cs : List cX} {nst : Prop} {x : Nat × Option Nat}
/-- an instruction is done, the call goes on -/
theorem n_go {w : Int32} {P : Nat → Prop} (hX : uX own mm A h F v DM len rl K D t f b nl k o c gs T p0 E lo ν0 ν1 G V rm r) (hw : w.toInt = a) (hG : G 0 a c gs) (h82 : v 82 = 0) (hP : P (12000 - a + mu r)) : pP own mm A DM len rl K P k f h F v h (va_up F (A 70) (va_up (F (A 70)) k w)) v (rwd A h F v) (.inl ((f, b, nl, a, c, gs) :: r, 0, xb_l h (A 74))) := by
  have hB := hX.1.B
  obtain ⟨hX1, s1⟩ := hX.c70 (w := w)
  have hX1' : uX own mm A h (va_up F (A 70) (va_up (F (A 70)) k w)) v DM len rl K D t f b nl k o ([] ++ c) gs T p0 E lo ν0 ν1 G V rm r := hX1
  have hR := n_RC (pre := []) (a := a) hX1' (by rw [xh_up, if_pos rfl, xh_up, if_pos rfl]; exact hw) hG
  obtain ⟨a1, -, -, -, a7, ⟨a8, a9, a10⟩, -⟩ := id hX1
  refine ⟨s1.P hB, s1.W hB, ⟨a1, h82, ⟨by rw [a8, ← a7]; rfl, fun e => absurd e (by simp), fun _ => ⟨_, _, a9, a10, hR⟩⟩, rfl⟩, fun cs n ω e _ => ?_⟩
  simp only [Sum.inl.injEq, Prod.mk.injEq] at e
  rw [← e.1]
  exact hP
/-- a trap is noted -/
theorem n_trp {w : Int32} {P : Nat → Prop} (hX : uX own mm A h F v DM len rl K D t f b nl k o c gs T p0 E lo ν0 ν1 G V rm r) (hw : w ≠ 0) : pP own mm A DM len rl K P k f h F v h F (va_up v 82 w) (rwd A h F v) (.inr w) := by
  obtain ⟨g1, g0, g2⟩ := uX.trap (a := 0) (nst := False) hX hw
  exact ⟨g1, g0, ⟨g2.1, g2.2.1, g2.2.2.1, g2.2.2.2.1, g2.2.2.2.2.1, g2.2.2.2.2.2.1, g2.2.2.2.2.2.2⟩, fun cs n ω e => by cases e⟩
/-- another function is called -/
theorem n_callX {x1 : Int32} {g pa P : Nat} (hX : uX own mm A h F v DM len rl K D t f b nl k o (ptl (qc D) pa P ++ c) gs T p0 E lo ν0 ν1 G V rm r) (hx : x1.toInt = g) (hf : fnO v g) (hPl : fPl (fun k => F (A k)) DM g = ptl (qc D) pa P) (hRt : fRt (fun k => F (A k)) DM g = res) (h70 : (F (A 70) k).toInt = a) (hG : G 0 a (tp res ++ c) gs) (hd : gbl gs ≤ c.length) (h82 : v 82 = 0)
    (hQ : ∀ (h' : xb_H) (F' : Nat → Nat → Int32) (v' : Nat → Int32) (w' : rWd) (z : cZ), pP own mm A DM len rl K (fun _ => True) k f h F v h' F' v' w' z → caR A F DM ((f, b, nl, a, c, gs) :: r) (b + nl + c.length) g (xb_l h (A 74)) (rwd A h F v) w' z → Q (mH h' F' mm v')) : w_M_call mm x1 (mH h F mm v) Q := by
  have hR := n_RC (pre := tp res) hX h70 hG
  obtain ⟨op, o1, o2, o3, o4⟩ := hX.ht
  obtain ⟨a1, ⟨l1, l2, l3, l4, l5, l6, l7, l8⟩, ⟨a3, a4, a5⟩, a6, a7, ⟨a8, a9, a10⟩, a11⟩ := id hX
  rw [List.length_append, ptl_len] at a9 a11
  have hl : (fPl (fun k => F (A k)) DM g).length = P := by rw [hPl, ptl_len]
  refine n_call (cs := (f, b, nl, a, c, gs) :: r) (base := b + nl + c.length) (o := o + 1 + gs.length) a1 hx hf (by rw [a8, ← a7]; rfl) (by rw [a9, hl]; congr 1; omega) a10 (by rw [hRt]; exact hR) ?_ (fun _ => ⟨op, by omega, by rw [o3]; omega⟩) h82 (by rw [hl]; omega) (fun h' F' v' w' z hu hz => hQ h' F' v' w' z ⟨hu.1, hu.2.1, ?_, fun _ _ _ _ _ => trivial⟩ hz)
  · rw [hPl]
    exact l5.pf
  · have h3 := hu.2.2
    cases z with
    | inl z => exact h3
    | inr κ =>
      obtain ⟨g0, g1, g1', g2, g3⟩ := h3
      refine ⟨g0, g1, g1', l1, by rw [g2]; exact a8, by rw [g3]; exact l2.1, ?_⟩
      unfold vN
      rw [hu.1.2 43 (by decide) (by decide) (by decide)]
      exact a5
theorem n_calling {x1 x2 x3 : Int32} (hX : uX own mm A h F v DM len rl K D t f b nl k o c gs T p0 E lo ν0 ν1 G V rm r) (hG : G 0 a c gs) (hr : rdP v (qb D) (a + 1) (qe D)) (h82 : v 82 = 0) (hx1 : x1.toInt = k) (hx2 : x2 = F (A 44) f) (hx3 : x3.toInt = op) (hop : (qc D a).toInt % 256 = op) (ho : 16 ≤ op) (ho2 : op < 32) (hv : vmk A h F)
    (hQ : ∀ (h' : xb_H) (F' : Nat → Nat → Int32) (v' : Nat → Int32) (w' : rWd) (z : cZ), pP own mm A DM len rl K (fun _ => True) k f h F v h' F' v' w' z → cgR A F DM D f b nl (ct_B ν1 p0 E) ν0 op a c gs r (xb_l h (A 74)) (rwd A h F v) w' z → Q (mH h' F' mm v')) : w_M_calling mm x1 x2 x3 (mH h F mm v) Q := by
  obtain ⟨C, dD, hVa, hwk, hE1, hE2, hE3, hvk, hcc⟩ := hX.ai hG hop
  obtain ⟨iz, mz, bz, y1, y2, y3, y4, y5, y6, y7, y8, y9, hM, hM2, hM3⟩ := hX.dX
  obtain ⟨a1, ⟨l1, l2, l3, l4, l5, l6, l7, l8⟩, ⟨a3, a4, a5⟩, a6, a7, ⟨a8, a9, a10⟩, a11⟩ := id hX
  obtain ⟨-, -, -, -, -, -, -, -, -, C16, C17, C26, C27, -⟩ := C
  obtain ⟨D1, -, D27, -, -, -, -, D16, D17, -⟩ := dD
  have hB := hX.1.B
  have hop4 : op = 16 ∨ op = 17 ∨ op = 26 ∨ op = 27 := by
    have h9 := wk_cases (op := (op : Int)) (by omega) (by omega) hE3
    omega
  have cl : x1.toNatClampNeg = k := by rw [z_cl, hx1]; omega
  have clx : x2.toNatClampNeg = iz := by rw [hx2, z_cl, y1]; omega
  have hx2' : x2.toInt = iz := by rw [hx2]; exact y1
  obtain ⟨g31, k31, n31, m31⟩ := hB.kx (k := 31) (kd := 102) (n := 24) (by decide) (by decide)
  obtain ⟨g70, k70, n70, m70⟩ := hB.kx (k := 70) (kd := 102) (n := 200) (by decide) (by decide)
  obtain ⟨g75, k75, n75, m75⟩ := hB.kx (k := 75) (kd := 100) (n := 18384) (by decide) (by decide)
  have in70 : vp_in x1 (xb_n h (A 70)) := z_vin hx1 n70 l1
  have e16 : x3 = 16 ↔ op = 16 := by
    rw [z_eq, hx3]
    simp only [Int32.reduceToInt]
    omega
  have e26 : x3 = 26 ↔ op = 26 := by
    rw [z_eq, hx3]
    simp only [Int32.reduceToInt]
    omega
  have e27 : x3 = 27 ↔ op = 27 := by
    rw [z_eq, hx3]
    simp only [Int32.reduceToInt]
    omega
  -- the place is noted
  have L104 : ∀ (h1 : xb_H) (F1 : Nat → Nat → Int32) (v1 : Nat → Int32) (c1 : List Int), sF own A h F v h1 F1 v1 → uX own mm A h1 F1 v1 DM len rl K D t f b nl k o c1 gs T p0 E lo ν0 ν1 G V rm r → (v1 15).toInt = (a + 1 : Nat) → v1 82 = 0 → G 0 (a + 1) c1 gs → cgR A F DM D f b nl (ct_B ν1 p0 E) ν0 op a c gs r (xb_l h (A 74)) (rwd A h F v) (rwd A h F v) (.inl ((f, b, nl, a + 1, c1, gs) :: r, 0, xb_l h1 (A 74))) → w_M_calling_L104 Q mm x1 (mH h1 F1 mm v1) := by
    intro h1 F1 v1 c1 p1 hX1 e15 e82 gg hcg
    have hB1 := hX1.1.B
    obtain ⟨g70', k70', n70', m70'⟩ := hB1.kx (k := 70) (kd := 102) (n := 200) (by decide) (by decide)
    unfold w_M_calling_L104
    refine ⟨hB1.2.1, A 70, g70', k70', z_vin hx1 n70' l1, fun h5 e5 => ?_⟩
    rw [mH_i, mH_A m70', cl] at e5
    subst e5
    have hgo := n_go (P := fun _ => True) hX1 e15 gg e82 trivial
    rw [p1.W hB] at hgo
    exact hQ _ _ _ _ _ (pP.tr (p1.P hB) hgo) hcg
  have L20 : op = 26 ∨ op = 27 → w_M_calling_L20 Q mm x1 x3 (mH h F mm v) := by
    intro h67
    have L36 : ∀ (v1 : Nat → Int32) (y0 : Int64) (y : Int) (c1 : List Int), sF own A h F v h F v1 → (∀ j, j ≠ 76 → v1 j = v j) → uX own mm A h F v1 DM len rl K D t f b nl k o (y :: c1) gs T p0 E lo ν0 ν1 G V rm r → gbl gs ≤ c1.length → (op = 26 → c = y :: c1 ∧ G 0 (a + 1) c1 gs) → (op = 27 → ∃ c2, c1 = y :: c2 ∧ gbl gs ≤ c2.length ∧ G 0 (a + 1) (y :: c2) gs ∧ (124 ≤ y ∧ y ≤ 127) ∧ c = 127 :: y :: y :: c2 ∧ y0 = xb_l h (A 74) (b + nl + c2.length + 2)) → w_M_calling_L36 Q mm x1 x3 y0 (mH h F mm v1) := by
      intro v1 y0 y c1 s1 w1 hX1 hg h26 h27
      obtain ⟨-, ⟨-, -, -, -, l5', -⟩, -, -, -, ⟨-, a9', -⟩, a11'⟩ := id hX1
      simp only [List.length_cons] at a9' a11'
      have e76 : (v1 76 - 1).toInt = (b + nl + c1.length : Nat) := by
        rw [z_sub, a9']
        simp only [Int32.reduceToInt]
        omega
      unfold w_M_calling_L36
      rw [mH_i]
      refine ⟨hB.2.1, fun hle => ?_, fun _ => ⟨A 75, g75, k75, z_vin e76 n75 (by omega), ?_⟩⟩
      · rw [z_le, a9'] at hle
        simp only [Int32.reduceToInt] at hle
        omega
      · rw [mH_o m75, z_cl, e76, Int.toNat_natCast]
        have hty : (F (A 75) (b + nl + c1.length)).toInt = y := l5'.1
        unfold w_M_calling_L61
        refine ⟨hB.2.1, hX1.popE (.inl rfl) hg (fun v2 s2 w2 hX2 _ => ⟨fun n27 => ?_, fun h27' => ?_⟩)⟩
        · have o26 : op = 26 := h67.resolve_right (fun e => n27 (e27.mpr e))
          exact L104 h F v2 c1 (s1.tr s2) hX2 (by rw [w2 15 (by decide), w1 15 (by decide)]; exact hr.1) (by rw [w2 82 (by decide), w1 82 (by decide)]; exact h82) (h26 o26).2 ⟨fun _ => ⟨y, c1, (h26 o26).1, rfl, rfl⟩, fun e => by omega, fun e => by omega, fun e => by omega⟩
        · have o27 := e27.mp h27'
          obtain ⟨c2, ec, hg2, gg, ⟨t1, t2⟩, ec3, ey0⟩ := h27 o27
          subst ec
          refine hX2.popE (.inr hty) hg2 (fun v3 s3 w3 hX3 _ => ?_)
          have hty2 : (F (A 75) (b + nl + c2.length)).toInt = y := l5'.2.1
          have hva : arV y (xb_l h (A 74) (b + nl + c2.length)) = xb_l h (A 74) (b + nl + c2.length) := by rw [← hty2]; exact hv _
          have hvb : arV y (xb_l h (A 74) (b + nl + (y :: c2).length)) = xb_l h (A 74) (b + nl + c2.length + 1) := by rw [← hty]; exact hv _
          have hl := hX.rm' gg
          simp only [List.length_cons] at hl
          have L99 : ∀ y9 : Int64, arV y y9 = (if xb_l h (A 74) (b + nl + c2.length + 2) = 0 then xb_l h (A 74) (b + nl + c2.length + 1) else xb_l h (A 74) (b + nl + c2.length)) → w_M_calling_L99 Q mm x1 (F (A 75) (b + nl + (y :: c2).length)) y9 mm (mH h F mm v3) := by
            intro y9 hy9
            unfold w_M_calling_L99
            refine ⟨hB.2.1, hX3.pushE (by rw [hty]; omega) (by omega) (fun F4 v4 s4 w4 f4 hX4 _ => ?_)⟩
            rw [hty] at hX4 s4 ⊢
            exact L104 _ F4 v4 _ ((s1.tr s2).tr (s3.tr s4)) hX4 (by rw [w4 15 (by decide), w3 15 (by decide), w2 15 (by decide), w1 15 (by decide)]; exact hr.1) (by rw [w4 82 (by decide), w3 82 (by decide), w2 82 (by decide), w1 82 (by decide)]; exact h82) gg ⟨fun e => by omega, fun _ => ⟨y, c2, ec3, rfl, by rw [xl_L, hy9]⟩, fun e => by omega, fun e => by omega⟩
          refine ⟨fun e0 => L99 _ ?_, fun e0 => L99 _ ?_⟩
          · rw [ey0] at e0
            rw [if_pos e0, hvb]
          · rw [ey0] at e0
            rw [if_neg e0, hva]
    unfold w_M_calling_L20
    refine ⟨fun n27 => ?_, fun h27 => ⟨hB.2.1, ?_⟩⟩
    · have o26 : op = 26 := by
        have : op ≠ 27 := fun e => n27 (e27.mpr e)
        omega
      obtain ⟨y, c1, ec, gg⟩ := C26 (by omega)
      have d1 := D1 (by omega)
      subst ec
      simp only [List.length_cons] at d1
      exact L36 v 0 y c1 sF.rf (fun _ _ => rfl) hX (by omega) (fun _ => ⟨rfl, gg⟩) (fun e => by omega)
    · have o27 := e27.mp h27
      obtain ⟨y, c2, ec, gg⟩ := C27 (by omega)
      have d1 := D27 (by omega)
      subst ec
      simp only [List.length_cons] at d1
      have cn := hcc y (by simp)
      exact hX.popE (.inr rfl) (by simp only [List.length_cons]; omega) (fun v1 s1 w1 hX1 _ => L36 v1 _ y (y :: c2) s1 w1 hX1 (by simp only [List.length_cons]; omega) (fun e => by omega) (fun _ => ⟨c2, rfl, by omega, gg, cn, rfl, rfl⟩))
  unfold w_M_calling
  refine ⟨hB.2.1, A 31, g31, k31, z_vin hx2' n31 y2, fun v5 e5 => ⟨fun h26 => L20 (.inl (e26.mp h26)), fun n26 => ⟨fun n27 => ?_, fun h27 => L20 (.inr (e27.mp h27))⟩⟩⟩
  rw [mH_o m31, clx] at e5
  have h5 : v5.toInt = mz := by rw [e5]; exact y4
  have o167 : op = 16 ∨ op = 17 := by
    have : op ≠ 26 := fun e => n26 (e26.mpr e)
    have : op ≠ 27 := fun e => n27 (e27.mpr e)
    omega
  have sh4 : 4 ≤ wk_sh ((qc D a).toInt % 256) := by
    rw [hop]
    rcases o167 with e | e <;> rw [e] <;> decide
  obtain ⟨q, hnr, q1, q2, q3, q4⟩ := wOK.nx hvk hVa hwk (.inr sh4)
  obtain ⟨n1, n2, n3⟩ := hnr
  have n2 := n2 sh4
  have nu1 : ν1 a = ν0 a := (hvk.2.1 a hVa).2.2.2 (.inr (.inr sh4))
  have cnt : ∃ (p1 : Nat) (x : Int64), rC (qc D) (a + 1) = some (p1, x) ∧ (ν0 (a + 1)).toBitVec.toNat = x.toBitVec.toNat ∧ (op = 16 → p1 = q) ∧ (op = 17 → p1 + 1 = q) := by
    rcases o167 with e | e
    · have s4 : wk_sh ((qc D a).toInt % 256) = 4 := by rw [hop, e]; decide
      rw [s4] at n1 n3
      obtain ⟨x, n1⟩ := n1.2.2.1 rfl
      obtain ⟨q', x', k1, k2, -⟩ := n3 (by omega)
      rw [n1] at k1
      simp only [Option.some.injEq, Prod.mk.injEq] at k1
      rw [← k1.2] at k2
      exact ⟨q, x, n1, k2, fun _ => rfl, fun e9 => by omega⟩
    · have s4 : wk_sh ((qc D a).toInt % 256) = 6 := by rw [hop, e]; decide
      rw [s4] at n1 n3
      obtain ⟨p1, x, n1, -, n1'⟩ := n1.2.2.2.2.1 rfl
      obtain ⟨q', x', k1, k2, -⟩ := n3 (by omega)
      rw [n1] at k1
      simp only [Option.some.injEq, Prod.mk.injEq] at k1
      rw [← k1.2] at k2
      exact ⟨p1, x, n1, k2, fun e9 => by omega, fun _ => n1'.symm⟩
  obtain ⟨p1, xc, k1, k2, k3, k4⟩ := cnt
  have hp1 : p1 ≤ q := by
    rcases o167 with e | e
    · have := k3 e; omega
    · have := k4 e; omega
  refine m_count_k hM.rd hr hX.1.z k1 (by omega) (fun v1 r1 w1 _ v10 e10 => ?_)
  subst e10
  have hX1 := hX.vg r1.vg w1
  have v82 : v1 82 = 0 := by rw [r1.vg 82 (by decide) (by decide) (by decide) (by decide) (by decide)]; exact h82
  have v15 : (v1 15).toInt = p1 := r1.2.1
  have e43 : ∀ g, fnO v1 g ↔ fnO v g := fun g => by
    unfold fnO vN
    rw [r1.vg 43 (by decide) (by decide) (by decide) (by decide) (by decide)]
  have n30 : vN v1 30 = vN v 30 := by
    unfold vN
    rw [r1.vg 30 (by decide) (by decide) (by decide) (by decide) (by decide)]
  have o70 : ∀ (w : Int32) k', (∃ e ∈ aL, e.1 = k') → k' ≠ 70 → va_up F (A 70) (va_up (F (A 70)) k w) (A k') = F (A k') := fun w k' g1 g2 => by rw [xh_up, if_neg (hB.ne g1 (by decide) g2)]
  refine ⟨fun n16 => ⟨A 70, g70, k70, in70, fun h15 e15 => ?_⟩, fun h16 => ⟨A 70, g70, k70, in70, fun h34 e34 => ?_⟩⟩
  · -- by a table
    have o17 : op = 17 := o167.resolve_left (fun e => n16 (e16.mpr e))
    obtain ⟨u, pa, P, xx, c2, d1, d2, d3, d4, d5, d6, d7, d8, d9⟩ := C17 (by omega)
    have dd := D17 (by omega) u P d2 d6
    have hu : xc.toInt = u := nt_x k2 d2
    have hu1 : u < qt D 1 := by
      have : gn D 0 = 5 * qt D 1 := rfl
      omega
    have bq1 := (hM.2.2.2.2.2.1 1 (by decide)).1
    have hu32 : (Int64.toInt32 xc).toInt = u := z_l2i hu (by omega)
    obtain ⟨-, V1, V2, -, V4⟩ := gv_0 hM.2.2 hu1
    have ePa : pa = tPa D u := by omega
    have eP : P = tPn D u := by omega
    subst ePa eP
    rw [V4] at d9
    have exq : xx = q := by
      have h8 := d8.2.2
      rw [nu1] at h8
      exact Int.ofNat.inj (h8.symm.trans n2)
    subst exq
    subst d7
    simp only [List.length_cons, List.length_append, ptl_len] at dd
    rw [mH_i, mH_A m70, cl] at e15
    subst e15
    obtain ⟨hX2, s2⟩ := hX1.c70 (w := v1 15 + 1)
    refine hX2.popE (.inr rfl) (by rw [List.length_append, ptl_len]; omega) (fun v3 s3 w3 hX3 _ v18 e18 => ?_)
    have vg3 : ∀ j, j ≠ 76 → v3 j = v1 j := w3
    have hlow := Z_low_rg (xb_l h (A 74) (b + nl + (ptl (qc D) (tPa D u) (tPn D u) ++ c2).length))
    rw [← e18] at hlow
    have n30' : vN v3 30 = vN v 30 := by
      rw [← n30]
      unfold vN
      rw [w3 30 (by decide)]
    refine n_only (κ := 1) (i := iz) hX3.1 hx2' (by omega) rfl (.inl rfl) (fun v4 r20 g4 w4 u4 _ => ?_)
    obtain ⟨g, u5, u6, u7⟩ : ∃ g : Nat, r20.toInt = g ∧ g < vN v3 46 ∧ g = (oV A F DM (F (A 44) f).toInt.toNat 1).toInt.toNat := by
      rcases u4 with ⟨-, u3⟩ | ⟨g, u3, u4, -, u7, -⟩
      · exfalso
        rw [o70 _ 31 (by decide) (by decide)] at u3
        have u3 := u3 mz y4
        rw [← y9] at u3
        have h3 : qt D (3 + 1) = qt D 4 := rfl
        have : gn D 3 = 3 * (iM D 1 + qt D 4) := rfl
        omega
      · refine ⟨g, u3, u4 rfl, ?_⟩
        unfold oV at u7 ⊢
        rw [o70 _ 31 (by decide) (by decide), o70 _ 32 (by decide) (by decide), o70 _ 33 (by decide) (by decide), o70 _ 37 (by decide) (by decide), o70 _ 38 (by decide) (by decide)] at u7
        rw [y1, Int.toNat_natCast, ← u7, u3]
        rfl
    have hX4 := hX3.vg g4 w4
    obtain ⟨tf, tz, t1, t2, t3⟩ := hX3.1.w4.2.1 g u6
    have t1' : (va_up F (A 70) (va_up (F (A 70)) k (v1 15 + 1)) (A 48) g).toInt = tf := t1
    have t2' : (va_up F (A 70) (va_up (F (A 70)) k (v1 15 + 1)) (A 49) g).toInt = tz := t2
    have n46 := (hX3.1.n (k := 46) (b := 24) (by decide)).2
    have n47 := (hX3.1.n (k := 47) (b := 16384) (by decide)).2
    obtain ⟨g48, k48, n48, m48⟩ := hB.kx (k := 48) (kd := 102) (n := 24) (by decide) (by decide)
    obtain ⟨g49, k49, n49, m49⟩ := hB.kx (k := 49) (kd := 102) (n := 24) (by decide) (by decide)
    obtain ⟨g51, k51, n51, m51⟩ := hB.kx (k := 51) (kd := 102) (n := 16384) (by decide) (by decide)
    have cg : r20.toNatClampNeg = g := by rw [z_cl, u5]; omega
    have ing : ∀ A' : Nat, xb_n h A' = 24 → vp_in r20 (xb_n h A') := fun A' hA' => z_vin u5 hA' (by omega)
    have v482 : v4 82 = 0 := by rw [g4 82 (by decide) (by decide) (by decide) (by decide) (by decide), w3 82 (by decide)]; exact v82
    have s4 : sF own A h F v h (va_up F (A 70) (va_up (F (A 70)) k (v1 15 + 1))) v4 := ((r1.sF.tr s2).tr s3).tr g4.sF
    have t1F : (F (A 48) (oV A F DM (F (A 44) f).toInt.toNat 1).toInt.toNat).toInt = tf := by rw [← u7, ← o70 (v1 15 + 1) 48 (by decide) (by decide)]; exact t1'
    have t2F : (F (A 49) (oV A F DM (F (A 44) f).toInt.toNat 1).toInt.toNat).toInt = tz := by rw [← u7, ← o70 (v1 15 + 1) 49 (by decide) (by decide)]; exact t2'
    obtain ⟨e, he⟩ : ∃ e : Nat, v18.toInt = e := ⟨v18.toInt.toNat, by omega⟩
    have heF : (xb_l h (A 74) (b + nl + (ptl (qc D) (tPa D u) (tPn D u) ++ c2).length) &&& 4294967295).toInt = e := by rw [← e18]; exact he
    -- a trap
    have trp : ∀ (v6 : Nat → Int32) (x10 w : Int32), vg v4 v6 → v6 17 = 0 → 0 < w.toInt → cgR A F DM D f b nl (ct_B ν1 p0 E) ν0 op a (127 :: (ptl (qc D) (tPa D u) (tPn D u) ++ c2)) gs r (xb_l h (A 74)) (rwd A h F v) (rwd A h F v) (.inr w) → w_M_calling_L273 Q mm x10 w mm (mH h (va_up F (A 70) (va_up (F (A 70)) k (v1 15 + 1))) mm v6) := by
      intro v6 x10 w g6 w6 hw hcg
      unfold w_M_calling_L273
      refine ⟨hB.2.1, fun h2 e2 => ?_⟩
      rw [mH_I] at e2
      subst e2
      rw [mH_i, xh_up, if_pos rfl]
      refine ⟨hB.2.1, fun hle => ?_, fun _ => ?_⟩
      · rw [z_le] at hle
        simp only [Int32.reduceToInt] at hle
        omega
      · have htr := n_trp (P := fun _ => True) (hX4.vg g6 w6) (w := w) (fun e => by rw [e] at hw; exact absurd hw (by decide))
        rw [(s4.tr g6.sF).W hB] at htr
        exact hQ _ _ _ _ _ (pP.tr ((s4.tr g6.sF).P hB) htr) hcg
    have L220 : ∀ y0 : Int32, (v18.toInt < tz → F (A 51) (tf + e) = y0 ∧ (y0 = 0 ∨ ∃ f' : Nat, y0.toInt = (f' + 1 : Nat) ∧ fnO v4 f')) → w_M_calling_L220 Q mm v5 (Int64.toInt32 xc) v18 r20 y0 (mH h (va_up F (A 70) (va_up (F (A 70)) k (v1 15 + 1))) mm v4) := by
      intro y0 hy0
      unfold w_M_calling_L220
      refine ⟨hB.2.1, A 49, g49, k49, ing _ n49, fun hlt => ?_, fun hnl => trp v4 y0 6 vg.rf w4 (by decide) ⟨fun e => by omega, fun e => by omega, fun e => by omega, fun _ => ⟨u, c2, e, tf, tz, d2, hu1, rfl, heF, t1F, t2F, .inl ⟨?_, rfl, rfl⟩⟩⟩⟩
      rotate_left
      · rw [mH_o m49, cg, Z_lt, Z_of32, t2', he] at hnl
        omega
      rw [mH_o m49, cg, Z_lt, Z_of32, t2'] at hlt
      obtain ⟨hy1, hy2⟩ := hy0 hlt
      refine ⟨fun hn0 => ?_, fun h00 => trp v4 y0 7 vg.rf w4 (by decide) ⟨fun e => by omega, fun e => by omega, fun e => by omega, fun _ => ⟨u, c2, e, tf, tz, d2, hu1, rfl, heF, t1F, t2F, .inr (.inl ⟨by omega, by rw [hy1, h00], rfl, rfl⟩)⟩⟩⟩
      rcases hy2 with e0 | ⟨f', e0, hf'⟩
      · exact absurd e0 hn0
      · have ef : (y0 - 1).toInt = f' := by
          rw [z_sub, e0]
          simp only [Int32.reduceToInt]
          have : f' < 200000 := by
            rcases hf' with h9 | h9
            · have := (hX4.1.n (k := 43) (b := 8192) (by decide)).2
              omega
            · omega
          omega
        have hm5 : mz < vN v4 5 := by
          unfold vN
          rw [g4 5 (by decide) (by decide) (by decide) (by decide) (by decide), w3 5 (by decide), r1.vg 5 (by decide) (by decide) (by decide) (by decide) (by decide)]
          exact y5
        obtain ⟨-, -, efP, efR⟩ := fMo.st (DM := DM) (φ := fun k => F (A k)) (φ' := fun k' => va_up F (A 70) (va_up (F (A 70)) k (v1 15 + 1)) (A k')) (o70 _ 31 (by decide) (by decide)) (o70 _ 44 (by decide) (by decide)) (o70 _ 45 (by decide) (by decide))
        refine n_hasTypeE (m := mz) (t := u) hX4.1 ef hf' h5 hm5 hu32 (by rw [← y9]; exact hu1) (fun v6 r8 g6 w6 e8 _ => ⟨fun hn8 => ?_, fun h80 => trp v6 y0 8 g6 w6 (by decide) ⟨fun e => by omega, fun e => by omega, fun e => by omega, fun _ => ⟨u, c2, e, tf, tz, d2, hu1, rfl, heF, t1F, t2F, .inr (.inr ⟨by omega, f', by rw [hy1]; exact e0, .inl ⟨?_, rfl, rfl⟩⟩)⟩⟩⟩)
        rotate_left
        · rcases e8 with ⟨-, e8⟩ | ⟨e8, -⟩
          · rw [← y9, efP, efR] at e8
            exact e8
          · rw [e8] at h80
            exact absurd h80 (by decide)
        rcases e8 with ⟨e8, -⟩ | ⟨-, e8, e9⟩
        · exact absurd e8 hn8
        · rw [← y9] at e8 e9
          unfold w_M_calling_L273
          refine ⟨hB.2.1, fun h2 e2 => ?_⟩
          have v682 : v6 82 = 0 := by rw [g6 82 (by decide) (by decide) (by decide) (by decide) (by decide)]; exact v482
          rw [mH_I, vu_id v682] at e2
          subst e2
          rw [mH_i]
          refine ⟨hB.2.1, fun _ v5' e5' => ?_, fun h9 => ?_⟩
          · unfold w_M_calling_L290
            subst e5'
            have hX6 := hX4.vg g6 w6
            have hf6 : fnO v6 f' := by
              unfold fnO vN
              rw [g6 43 (by decide) (by decide) (by decide) (by decide) (by decide)]
              exact hf'
            refine ⟨hB.2.1, n_callX (a := xx) hX6 ef hf6 e8 e9 ?_ d9 (by omega) v682 (fun h' F' v' w' z' hu hz _ => hQ h' F' v' w' z' (pP.tr ((s4.tr g6.sF).P hB) hu) ⟨fun e => by omega, fun e => by omega, fun e => by omega, fun _ => ⟨u, c2, e, tf, tz, d2, hu1, rfl, heF, t1F, t2F, .inr (.inr ⟨by omega, f', by rw [hy1]; exact e0, .inr ⟨by rw [← efP, ← efR]; exact ⟨e8, e9⟩, xx, d8, ?_⟩⟩)⟩⟩)⟩
            · rw [xh_up, if_pos rfl, xh_up, if_pos rfl, z_inc v15 (by omega), k4 o17]
            · rw [(s4.tr g6.sF).W hB] at hz
              unfold caR at hz ⊢
              rw [o70 _ 44 (by decide) (by decide), o70 _ 31 (by decide) (by decide), o70 _ 45 (by decide) (by decide), o70 _ 8 (by decide) (by decide), o70 _ 12 (by decide) (by decide)] at hz
              exact hz
          · rw [v682] at h9
            exact absurd (by decide) h9
    refine ⟨A 49, g49, k49, ing _ n49, fun hle => L220 0 (fun h9 => ?_), fun hle => ?_⟩
    · rw [mH_o m49, cg, Z_le, Z_of32, t2'] at hle
      omega
    rw [mH_o m49, cg, Z_le, Z_of32, t2'] at hle
    have e32 : (Int64.toInt32 v18).toInt = e := z_l2i he (by omega)
    have e48 := z_ad2 t1' e32 (by omega) (by omega)
    have el : (va_up F (A 70) (va_up (F (A 70)) k (v1 15 + 1)) (A 48) g + Int64.toInt32 v18).toNatClampNeg = tf + e := by rw [z_cl, e48]; omega
    refine ⟨A 51, g51, A 48, g48, k48, ing _ n48, k51, ?_, L220 _ (fun _ => ?_)⟩
    · rw [mH_o m48, cg]
      exact z_vin e48 n51 (by omega)
    · rw [mH_o m51, mH_o m48, cg, el]
      refine ⟨by rw [o70 _ 51 (by decide) (by decide)], ?_⟩
      rcases hX3.1.w4.2.2.1 (tf + e) (by omega) with h9 | ⟨f', h9, h8⟩
      · exact .inl h9
      · refine .inr ⟨f', h9, ?_⟩
        unfold fnO vN
        rw [g4 43 (by decide) (by decide) (by decide) (by decide) (by decide)]
        exact h8
  · -- by its number
    have o16 := e16.mp h16
    obtain ⟨i, u, pa, P, xx, c2, d1, d2, d3, d4, d5, d6, d7, d8, d9⟩ := C16 (by omega)
    have hi : i < iM D 0 + qt D 3 := by
      have : gn D 2 = 2 * (iM D 0 + qt D 3) := rfl
      omega
    have dd := D16 (by omega) i u P d1 d4 d6
    have hu : xc.toInt = i := nt_x k2 d1
    have bq3 := (hM.2.2.2.2.2.1 3 (by decide)).1
    have bi := hM.2.2.ib (κ := 0)
    have hi32 : (Int64.toInt32 xc).toInt = i := z_l2i hu (by omega)
    obtain ⟨-, hRd, -, hlen, hMV⟩ := hX.1.I.2.1 mz y5
    rw [← y9] at hMV
    have hft := hMV.1.2.1 i hi
    have bq1 := (hM.2.2.2.2.2.1 1 (by decide)).1
    rw [gv_2 (by omega)] at d4
    have eu : u = fty D i := by omega
    subst eu
    obtain ⟨-, V1, V2, -, V4⟩ := gv_0 hM.2.2 hft
    have ePa : pa = tPa D (fty D i) := by omega
    have eP : P = tPn D (fty D i) := by omega
    subst ePa eP
    rw [V4] at d9
    have exq : xx = q := by
      have h8 := d8.2.2
      rw [nu1] at h8
      exact Int.ofNat.inj (h8.symm.trans n2)
    subst exq
    subst d7
    simp only [List.length_append, ptl_len] at dd
    rw [mH_i, mH_A m70, cl] at e34
    subst e34
    obtain ⟨hX2, s2⟩ := hX1.c70 (w := v1 15)
    refine n_meant (κ := 0) (k := i) (i := iz) (m := mz) hX2.1 hx2' (by omega) rfl (by decide) hi32 (by rw [o70 _ 31 (by decide) (by decide)]; exact y4) (by rw [← y9]; exact hi) (fun v3 r36 g u1 u2 u3 u9 u4 _ _ _ _ => ?_)
    obtain ⟨u4, u5, u6⟩ := u4 rfl
    have emn : g = mnV A F DM (F (A 44) f).toInt.toNat 0 i := by
      rw [u9, y1, Int.toNat_natCast]
      unfold mnV
      rw [o70 _ 31 (by decide) (by decide), o70 _ 32 (by decide) (by decide), o70 _ 33 (by decide) (by decide), o70 _ 35 (by decide) (by decide), o70 _ 36 (by decide) (by decide), o70 _ 37 (by decide) (by decide), o70 _ 38 (by decide) (by decide)]
    rw [← y9] at u5 u6
    have hX3 := hX2.vg u1 u2
    have v382 : v3 82 = 0 := by rw [u1 82 (by decide) (by decide) (by decide) (by decide) (by decide)]; exact v82
    have hf3 : fnO v3 g := by
      unfold fnO vN
      rw [u1 43 (by decide) (by decide) (by decide) (by decide) (by decide)]
      exact u4
    unfold w_M_calling_L290
    refine ⟨hB.2.1, n_callX (a := xx) hX3 u3 hf3 u5 u6 ?_ d9 (by omega) v382 (fun h' F' v' w' z' hu hz _ => hQ h' F' v' w' z' (pP.tr (((r1.sF.tr s2).tr u1.sF).P hB) hu) ⟨fun e => by omega, fun e => by omega, fun _ => ⟨i, xx, c2, d1, hi, d8, rfl, ?_⟩, fun e => by omega⟩)⟩
    · rw [xh_up, if_pos rfl, xh_up, if_pos rfl, v15, k3 o16]
    · rw [((r1.sF.tr s2).tr u1.sF).W hB, emn] at hz
      unfold caR at hz ⊢
      rw [o70 _ 44 (by decide) (by decide), o70 _ 31 (by decide) (by decide), o70 _ 45 (by decide) (by decide), o70 _ 8 (by decide) (by decide), o70 _ 12 (by decide) (by decide)] at hz
      exact hz
end MRT
