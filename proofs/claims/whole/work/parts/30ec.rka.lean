-- equality, checking: which fault, and where (the reference)
/-- the code and the place tell this fault, or none -/
def xf (D : zM) (v : Nat → Int32) : Option (Nat × Nat) → Prop
  | none => v 17 = 0
  | some Fl => v 17 ≠ 0 ∧ (v 17).toInt = Fl.1 ∧ (v 18).toInt + qb D = Fl.2
/-- the first fault of n checks -/
def sqF (fn : Nat → Option (Nat × Nat)) : Nat → Option (Nat × Nat)
  | 0 => none
  | n + 1 => (sqF fn n).or (fn n)
/-- limits at p -/
def lmF (cb : Nat → Int32) (om : Bool) (p w : Nat) (an : Bool) : Option (Nat × Nat) :=
  if (ub cb p = 1 ∧ cV cb (cE cb (p + 1)) < cV cb (p + 1)) ∨ (om = true ∧ (65536 < cV cb (p + 1) ∨ (ub cb p = 1 ∧ 65536 < cV cb (cE cb (p + 1))))) then some (25, w) else if an = true then some (27, w) else none
/-- the place behind an instruction -/
noncomputable def qW (cb : Nat → Int32) (p : Nat) : Nat := @dite _ (∃ q, rW cb (wk_sh ((cb p).toInt % 256)) (p + 1) q) (Classical.propDecidable _) (fun hq => Classical.choose hq) (fun _ => 0)
def enF (cb : Nat → Int32) (q : Nat) : Option (Nat × Nat) := if ub cb q = 11 then none else some (26, q)
/-- an expression that must be constant -/
noncomputable def ckCo (D : zM) (p : Nat) (ty : Int) : Option (Nat × Nat) :=
  if ub (qc D) p = 35 then (if iM D 3 ≤ cV (qc D) (p + 1) then some (20, p) else if vmu D (cV (qc D) (p + 1)) = 1 then some (26, p) else if ¬ vty D (cV (qc D) (p + 1)) = ty then some (21, p) else enF (qc D) (qW (qc D) p))
  else if 65 ≤ (ub (qc D) p).toInt ∧ (ub (qc D) p).toInt ≤ 68 then (if ¬ ty = 192 - (ub (qc D) p).toInt then some (21, p) else enF (qc D) (qW (qc D) p)) else some (26, p)
/-- an import -/
def ckIm (D : zM) (k : Nat) : Option (Nat × Nat) :=
  if ub (qc D) (kpo D k) = 0 then (if qt D 1 ≤ cV (qc D) (kpo D k + 1) then some (20, qp D 2 k) else none)
  else if ub (qc D) (kpo D k) = 1 then lmF (qc D) false (kpo D k + 2) (qp D 2 k) (decide (0 < kcn (qc D) (qp D 2) 1 k))
  else if ub (qc D) (kpo D k) = 2 then lmF (qc D) true (kpo D k + 1) (qp D 2 k) (decide (0 < kcn (qc D) (qp D 2) 2 k)) else none
section RKA
variable {own : Nat → Nat} {mm m b e p q st N t u f g k : Nat} {A : Nat → Nat} {h h' h2 : xb_H} {F : Nat → Nat → Int32} {v v' v2 cb : Nat → Int32} {D : zM} {op : Nat} {ty : Int} {fn : Nat → Option (Nat × Nat)} {C : Option (Nat × Nat)} {Fl : Nat × Nat}
theorem sqF_mo : ∀ {n k : Nat}, k ≤ n → sqF fn k = some Fl → sqF fn n = some Fl
  | 0, k, hk, h1 => by
    have : k = 0 := by omega
    rw [this] at h1
    exact h1
  | n + 1, k, hk, h1 => by
    rcases Nat.lt_or_ge k (n + 1) with h9 | h9
    · unfold sqF
      rw [sqF_mo (by omega) h1]
      rfl
    · have : k = n + 1 := by omega
      rw [this] at h1
      exact h1
theorem xf.mo {n : Nat} (h1 : xf D v (sqF fn k)) (hn : v 17 ≠ 0) (hk : k ≤ n) : xf D v (sqF fn n) := by
  cases hc : sqF fn k with
  | none => rw [hc] at h1; exact absurd h1 hn
  | some Fl =>
    rw [sqF_mo hk hc]
    rw [hc] at h1
    exact h1
theorem xf.z (h1 : xf D v C) (hz : v 17 = 0) : C = none := by
  cases C with
  | none => rfl
  | some Fl => exact absurd hz h1.1
theorem xf.sc (h1 : xf D v (sqF fn k)) (hz : v 17 = 0) (h2 : xf D v' (fn k)) : xf D v' (sqF fn (k + 1)) := by
  unfold sqF
  rw [h1.z hz]
  exact h2
theorem xf.or {C2 : Option (Nat × Nat)} (h1 : xf D v C) (hz : v 17 = 0) (h2 : xf D v' C2) : xf D v' (C.or C2) := by
  rw [h1.z hz]
  exact h2
theorem xf.on {C2 : Option (Nat × Nat)} (h1 : xf D v C) (hn : v 17 ≠ 0) : xf D v (C.or C2) := by
  cases C with
  | none => exact absurd h1 hn
  | some Fl => exact h1
/-- failing, for the first time -/
theorem k_fail {c x : Int32} {cc w : Nat} {Qr : xb_H → Prop} (hk : xb_k h mm = 9) (h14 : (v 14).toInt = qb D) (hb : qb D ≤ 12000) (hc : c.toInt = cc) (h0 : cc ≠ 0) (hx : x.toInt = w) (hw : w ≤ 12000) (hz : v 17 = 0) (hQ : ∀ v' : Nat → Int32, (∀ j, j ≠ 17 → j ≠ 18 → v' j = v j) → v' 17 ≠ 0 → xf D v' (some (cc, w)) → Qr (mH h F mm v')) : w_M_fail mm c x (mH h F mm v) Qr := by
  refine g_fail (e := 0) (Fl := (cc, w)) hk ⟨by omega, by omega, by omega⟩ (fun h9 => h0 (by rw [h9] at hc; simp only [Int32.reduceToInt] at hc; omega)) hx (by omega) ⟨hc, rfl⟩ (fun v' g1 g2 g3 => hQ v' g1 g2 ⟨g2, ?_⟩)
  have := g3.2 hz g2
  rw [h14] at this
  exact this
theorem k_failn {c x : Int32} {Qr : xb_H → Prop} (hk : xb_k h mm = 9) (hn : v 17 ≠ 0) (hQ : Qr (mH h F mm v)) : w_M_fail mm c x (mH h F mm v) Qr := by
  unfold w_M_fail w_M_fail_L22
  rw [mH_i]
  exact ⟨hk, fun _ => hQ, fun h9 => absurd h9 hn⟩
theorem qW_E (h1 : rW cb (wk_sh ((cb p).toInt % 256)) (p + 1) q) : qW cb p = q := by
  have hx : ∃ q, rW cb (wk_sh ((cb p).toInt % 256)) (p + 1) q := ⟨q, h1⟩
  have e1 : qW cb p = Classical.choose hx := dif_pos hx
  rw [e1]
  exact rW_f (Classical.choose_spec hx) h1
theorem ckCo_x (h1 : ¬ ub (qc D) p = 35) (hop : (ub (qc D) p).toInt = op) (h2 : ¬ (65 ≤ op ∧ op ≤ 68)) : ckCo D p ty = some (26, p) := by
  unfold ckCo
  rw [if_neg h1, if_neg (by omega)]
theorem ckCo_c (h1 : ¬ ub (qc D) p = 35) (hop : (ub (qc D) p).toInt = op) (h2 : 65 ≤ op ∧ op ≤ 68) (h3 : ty = 192 - (op : Int)) : ckCo D p ty = enF (qc D) (qW (qc D) p) := by
  unfold ckCo
  rw [if_neg h1, if_pos (by omega), if_neg (by omega)]
theorem ckCo_cf (h1 : ¬ ub (qc D) p = 35) (hop : (ub (qc D) p).toInt = op) (h2 : 65 ≤ op ∧ op ≤ 68) (h3 : ¬ ty = 192 - (op : Int)) : ckCo D p ty = some (21, p) := by
  unfold ckCo
  rw [if_neg h1, if_pos (by omega), if_pos (by omega)]
theorem ckCo_20 (h1 : ub (qc D) p = 35) (h2 : iM D 3 ≤ cV (qc D) (p + 1)) : ckCo D p ty = some (20, p) := by
  unfold ckCo
  rw [if_pos h1, if_pos h2]
theorem ckCo_26 (h1 : ub (qc D) p = 35) (h2 : ¬ iM D 3 ≤ cV (qc D) (p + 1)) (h3 : vmu D (cV (qc D) (p + 1)) = 1) : ckCo D p ty = some (26, p) := by
  unfold ckCo
  rw [if_pos h1, if_neg h2, if_pos h3]
theorem ckCo_21 (h1 : ub (qc D) p = 35) (h2 : ¬ iM D 3 ≤ cV (qc D) (p + 1)) (h3 : ¬ vmu D (cV (qc D) (p + 1)) = 1) (h4 : ¬ vty D (cV (qc D) (p + 1)) = ty) : ckCo D p ty = some (21, p) := by
  unfold ckCo
  rw [if_pos h1, if_neg h2, if_neg h3, if_pos h4]
theorem ckCo_g (h1 : ub (qc D) p = 35) (h2 : ¬ iM D 3 ≤ cV (qc D) (p + 1)) (h3 : ¬ vmu D (cV (qc D) (p + 1)) = 1) (h4 : vty D (cV (qc D) (p + 1)) = ty) : ckCo D p ty = enF (qc D) (qW (qc D) p) := by
  unfold ckCo
  rw [if_pos h1, if_neg h2, if_neg h3, if_neg (fun h9 => h9 h4)]
theorem ckIm_0 (h1 : ub (qc D) (kpo D k) = 0) : ckIm D k = if qt D 1 ≤ cV (qc D) (kpo D k + 1) then some (20, qp D 2 k) else none := by
  unfold ckIm
  rw [if_pos h1]
theorem ckIm_1 (h1 : ub (qc D) (kpo D k) = 1) : ckIm D k = lmF (qc D) false (kpo D k + 2) (qp D 2 k) (decide (0 < kcn (qc D) (qp D 2) 1 k)) := by
  unfold ckIm
  rw [if_neg (by rw [h1]; decide), if_pos h1]
theorem ckIm_2 (h1 : ub (qc D) (kpo D k) = 2) : ckIm D k = lmF (qc D) true (kpo D k + 1) (qp D 2 k) (decide (0 < kcn (qc D) (qp D 2) 2 k)) := by
  unfold ckIm
  rw [if_neg (by rw [h1]; decide), if_neg (by rw [h1]; decide), if_pos h1]
theorem ckIm_n (h0 : ¬ ub (qc D) (kpo D k) = 0) (h1 : ¬ ub (qc D) (kpo D k) = 1) (h2 : ¬ ub (qc D) (kpo D k) = 2) : ckIm D k = none := by
  unfold ckIm
  rw [if_neg h0, if_neg h1, if_neg h2]
theorem x_limitsFault {x1 x2 x3 : Int32} {w : Nat} {Qr : xb_H → Prop} (hX : mX own mm A h F m D) (hk : vk v v' D p) (hl : rLim (qc D) p q) (hq : q ≤ qe D) (hw : x2.toInt = w) (hw2 : w ≤ 12000) (hQ : ∀ v2 h2, vg v v2 → (v2 14).toInt = qb D → lq mm h h2 → xf D v2 (lmF (qc D) (decide (x1 ≠ 0)) p w (decide (x3 ≠ 0))) → Qr (mH h2 F mm v2)) : w_M_limitsFault mm x1 x2 x3 (mH h F mm v') Qr := by
  have bD : qb D ≤ 12000 := by have := hX.2.2.2.1; have := hX.2.2.2.2.1; omega
  have L54 : ∀ (v2 : Nat → Int32) (h2 : xb_H) (y0 : Int32), vg v v2 → (v2 14).toInt = qb D → v2 17 = 0 → lq mm h h2 → lmF (qc D) (decide (x1 ≠ 0)) p w (decide (x3 ≠ 0)) = (if y0 ≠ 0 then some (25, w) else if decide (x3 ≠ 0) = true then some (27, w) else none) → w_M_limitsFault_L54 Qr mm x2 x3 y0 (mH h2 F mm v2) := fun v2 h2 y0 g1 g14 hz l1 hl => by
    have k9 : xb_k h2 mm = 9 := by rw [l1.1]; exact hX.1.2.1
    unfold w_M_limitsFault_L54 w_M_limitsFault_L82
    rw [hl] at hQ
    refine ⟨fun h0 => ⟨fun h3 => hQ v2 h2 g1 g14 l1 ?_, fun h3 => ⟨k9, k_fail (cc := 27) (w := w) k9 g14 bD rfl (by decide) hw hw2 hz (fun v3 f1 f2 f3 _ => hQ v3 h2 (g1.fl f1) (by rw [f1 14 (by decide) (by decide)]; exact g14) l1 ?_)⟩⟩, fun h0 => ⟨k9, k_fail (cc := 25) (w := w) k9 g14 bD rfl (by decide) hw hw2 hz (fun v3 f1 f2 f3 _ => hQ v3 h2 (g1.fl f1) (by rw [f1 14 (by decide) (by decide)]; exact g14) l1 ?_)⟩⟩
    · rw [if_neg (fun h9 => h9 h0), if_neg (by rw [decide_eq_true_eq]; exact fun h9 => h9 h3)]
      exact hz
    · rw [if_neg (fun h9 => h9 h0), if_pos (by rw [decide_eq_true_eq]; exact h3)]
      exact f3
    · rw [if_pos h0]
      exact f3
  unfold w_M_limitsFault
  refine ⟨hX.1.2.1, x_leastRead hX.rd hk.2.2.1 hk.2.2.2 hl hq (fun v2 r y o2 z2 hr hy _ => ?_)⟩
  have G := hk.1.tr o2.vg
  have g14 : (v2 14).toInt = qb D := by rw [o2.e14]; exact hk.2.1
  have LL : lq mm h (xb_L h mm 91 y) := lq.L
  have ey : xb_l (mH (xb_L h mm 91 y) F mm v2) mm 91 = y := by
    show xb_l (xb_L h mm 91 y) mm 91 = y
    rw [xh_lL, if_pos rfl, xh_up, if_pos rfl]
  rw [ey]
  have L49 : (ub (qc D) p = 1 ∧ cV (qc D) (cE (qc D) (p + 1)) < cV (qc D) (p + 1)) ∨ (decide (x1 ≠ 0) = true ∧ (65536 < cV (qc D) (p + 1) ∨ (ub (qc D) p = 1 ∧ 65536 < cV (qc D) (cE (qc D) (p + 1))))) → w_M_limitsFault_L49 Qr mm x2 x3 (mH (xb_L h mm 91 y) F mm v2) := fun hc => by
    unfold w_M_limitsFault_L49
    exact L54 _ _ _ G g14 z2 LL (by unfold lmF; rw [if_pos hc, if_pos (by decide)])
  have L53 : ¬ ((ub (qc D) p = 1 ∧ cV (qc D) (cE (qc D) (p + 1)) < cV (qc D) (p + 1)) ∨ (decide (x1 ≠ 0) = true ∧ (65536 < cV (qc D) (p + 1) ∨ (ub (qc D) p = 1 ∧ 65536 < cV (qc D) (cE (qc D) (p + 1)))))) → w_M_limitsFault_L53 Qr mm x2 x3 (mH (xb_L h mm 91 y) F mm v2) := fun hc => by
    unfold w_M_limitsFault_L53
    exact L54 _ _ _ G g14 z2 LL (by unfold lmF; rw [if_neg hc, if_neg (show ¬ (0 : Int32) ≠ 0 by decide)])
  have L25 : ¬ (ub (qc D) p = 1 ∧ cV (qc D) (cE (qc D) (p + 1)) < cV (qc D) (p + 1)) → w_M_limitsFault_L25 Qr mm x1 x2 x3 r (mH (xb_L h mm 91 y) F mm v2) := fun hn => by
    unfold w_M_limitsFault_L25
    rw [ey]
    refine ⟨fun h0 => L53 (fun h9 => h9.elim hn (fun h8 => ?_)), fun h0 => ⟨fun h1 => L49 (.inr ⟨by rw [decide_eq_true_eq]; exact h0, .inl ?_⟩), fun h1 => ⟨hX.1.2.1, fun h2 => L53 (fun h9 => h9.elim hn (fun h8 => ?_)), fun h2 => L49 (.inr ⟨by rw [decide_eq_true_eq]; exact h0, .inr ?_⟩)⟩⟩⟩
    · have := h8.1
      rw [decide_eq_true_eq] at this
      exact this h0
    · rw [Z_lt, hr, show (65536 : Int64).toInt = 65536 from rfl] at h1
      omega
    · rw [Z_lt, hr, show (65536 : Int64).toInt = 65536 from rfl] at h1
      rw [Z_le, hy, show (65536 : Int64).toInt = 65536 from rfl] at h2
      rcases h8.2 with h7 | ⟨h7, h6⟩
      · omega
      · rw [if_pos h7] at h2
        omega
    · rw [Z_le, hy, show (65536 : Int64).toInt = 65536 from rfl] at h2
      by_cases h7 : ub (qc D) p = 1
      · rw [if_pos h7] at h2
        exact ⟨h7, by omega⟩
      · rw [if_neg h7] at h2
        omega
  refine ⟨fun h0 => L25 (fun h9 => ?_), fun h0 => ⟨fun h1 => L49 (.inl ?_), fun h1 => L25 (fun h9 => ?_)⟩⟩
  · rw [Z_lt, hy, if_pos h9.1, show (0 : Int64).toInt = 0 from rfl] at h0
    omega
  · rw [Z_lt, hy, show (0 : Int64).toInt = 0 from rfl] at h0
    rw [Z_lt, hy, hr] at h1
    by_cases h7 : ub (qc D) p = 1
    · rw [if_pos h7] at h1
      exact ⟨h7, by omega⟩
    · rw [if_neg h7] at h0
      omega
  · rw [Z_lt, hy, hr, if_pos h9.1] at h1
    omega
theorem x_checkConstant {x1 x2 : Int32} {E : Nat} {Qr : xb_H → Prop} (hX : mX own mm A h F m D) (h1 : x1.toInt = m) (hk : vk v v' D p) (hx : exR (qc D) p E) (hE : E ≤ qe D) (hQ : ∀ v2, vg v v2 → (v2 14).toInt = qb D → (v2 17 = 0 → vk v v2 D E ∧ ckE D p E) → xf D v2 (ckCo D p x2.toInt) → Qr (mH h F mm v2)) : w_M_checkConstant mm x1 x2 (mH h F mm v') Qr := by
  have hs := hX.rd
  obtain ⟨hB, ⟨a1, a2, a3, a4, a5, a6⟩, hR⟩ := id hX
  have k9 := hB.2.1
  have bD : qb D ≤ 12000 := by have := hR.2.1; have := hR.2.2.1; omega
  have hEb := hR.2.2.1
  have hlt := hx.1
  obtain ⟨q', r1, r2, r3⟩ := hx.fst
  have hlr := rW_b r1
  have bad : ∀ v2, vg v v2 → (v2 14).toInt = qb D → v2 17 ≠ 0 → xf D v2 (ckCo D p x2.toInt) → w_M_checkConstant_L173 Qr mm (mH h F mm v2) := fun v2 g1 g14 hn hxf => by
    unfold w_M_checkConstant_L173 w_M_checkConstant_L203
    rw [mH_i]
    exact ⟨k9, fun _ => hQ v2 g1 g14 (fun hz => absurd hz hn) hxf, fun hz => absurd hz hn⟩
  have eqW : qW (qc D) p = q' := qW_E r1
  have good : ∀ v2, vk v v2 D q' → q' < E → (ub (qc D) q' = 11 → q' + 1 = E ∧ ckE D p E) → ckCo D p x2.toInt = enF (qc D) q' → w_M_checkConstant_L173 Qr mm (mH h F mm v2) := fun v2 k2 hl hc hck => by
    unfold w_M_checkConstant_L173 w_M_checkConstant_L203
    rw [mH_i]
    refine ⟨k9, fun hn => absurd k2.2.2.2 hn, fun _ v3 e3 => m_next_k hs k2.2.2.1 k2.2.2.2 (by omega) (fun v4 o4 z4 _ => ⟨fun h11 => ?_, fun n11 => k_fail (cc := 26) (w := q') k9 (by rw [o4.e14]; exact k2.2.1) bD rfl (by decide) (by rw [e3]; exact k2.2.2.1.1) (by omega) z4 (fun v5 f1 f2 f3 _ => hQ v5 ((k2.1.tr o4.vg).fl f1) (by rw [f1 14 (by decide) (by decide), o4.e14]; exact k2.2.1) (fun hz => absurd hz f2) (by rw [hck]; unfold enF; rw [if_neg n11]; exact f3))⟩)⟩
    obtain ⟨c1, c2⟩ := hc h11
    refine hQ v4 (k2.1.tr o4.vg) (by rw [o4.e14]; exact k2.2.1) (fun _ => ⟨?_, c2⟩) (by rw [hck]; unfold enF; rw [if_pos h11]; exact z4)
    have := k2.go o4 z4
    rw [c1] at this
    exact this
  unfold w_M_checkConstant
  refine ⟨k9, fun v2' e2 => m_next_k hs hk.2.2.1 hk.2.2.2 (by omega) (fun v3 o3 z3 _ v5 e5 => ?_)⟩
  have K3 := hk.go o3 z3
  obtain ⟨op, hop⟩ : ∃ op : Nat, (ub (qc D) p).toInt = op := ⟨(ub (qc D) p).toInt.toNat, by have := ub_r (cb := qc D) (p := p); omega⟩
  have hsh : wk_sh ((qc D p).toInt % 256) = wk_sh op := by rw [ub_op, hop]
  rw [hsh] at r1 r3
  have e2' : v2'.toInt = p := by rw [e2, mH_i]; exact hk.2.2.1.1
  have K3b := K3.2.2.1.2.2.2
  have L166 : ¬ ub (qc D) p = 35 → ¬ (65 ≤ op ∧ op ≤ 68) → w_M_checkConstant_L166 Qr mm v2' (mH h F mm v3) := by
    intro n35 n65
    unfold w_M_checkConstant_L166
    exact ⟨k9, k_fail (cc := 26) (w := p) k9 K3.2.1 bD rfl (by decide) e2' (by omega) z3 (fun v5 f1 f2 f3 _ => bad v5 (K3.1.fl f1) (by rw [f1 14 (by decide) (by decide)]; exact K3.2.1) f2 (by rw [ckCo_x n35 hop n65]; exact f3))⟩
  rw [mH_i] at e5
  refine ⟨fun n35 => ⟨fun k65 => L166 n35 (by rw [z_lt, hop] at k65; simp only [Int32.reduceToInt] at k65; omega), fun k65 => ⟨fun k68 => L166 n35 (by rw [z_lt, hop] at k68; simp only [Int32.reduceToInt] at k68; omega), fun k68 h9 e9 => ?_⟩⟩, fun k35 => ?_⟩
  · rw [mH_I, e5, va_id] at e9
    subst e9
    rw [z_lt, hop] at k65 k68
    simp only [Int32.reduceToInt] at k65 k68
    have s4 : 4 ≤ wk_sh op := by
      have : op = 65 ∨ op = 66 ∨ op = 67 ∨ op = 68 := by omega
      rcases this with e | e | e | e <;> subst e <;> decide
    have n11 : ¬ ub (qc D) p = 11 := fun e => by rw [z_eq, hop] at e; simp only [Int32.reduceToInt] at e; omega
    have hl := r2 n11
    refine m_written_k hop hs K3.2.2.1 K3.2.2.2 r1 (by omega) (fun v4 o4 z4 _ => ?_)
    have K4 := K3.go o4 z4
    have e192 : (192 - ub (qc D) p).toInt = 192 - (op : Int) := by
      rw [z_sub, hop]
      simp only [Int32.reduceToInt]
      omega
    refine ⟨fun he => good v4 K4 hl (fun h11 => ⟨r3 s4 h11, q', r3 s4 h11, h11, .inr ⟨op, hop, by omega, by omega, r1⟩⟩) ?_, fun he => k_fail (cc := 21) (w := p) k9 K4.2.1 bD rfl (by decide) e2' (by omega) z4 (fun v5 f1 f2 f3 _ => bad v5 (K4.1.fl f1) (by rw [f1 14 (by decide) (by decide)]; exact K4.2.1) f2 ?_)⟩
    · rw [ckCo_c n35 hop ⟨by omega, by omega⟩ (by rw [he, e192]), eqW]
    · rw [ckCo_cf n35 hop ⟨by omega, by omega⟩ (fun h9 => he (by rw [z_eq, h9, e192]))]
      exact f3
  · have e35 : op = 35 := by
      rw [z_eq, hop] at k35
      simp only [Int32.reduceToInt] at k35
      omega
    have hs4 : wk_sh op = 4 := by rw [e35]; rfl
    rw [hs4] at r1 r3
    have n11 : ¬ ub (qc D) p = 11 := fun e => by rw [z_eq, hop] at e; simp only [Int32.reduceToInt] at e; omega
    have hl := r2 n11
    obtain ⟨x, rc⟩ := rW_4i.mp r1
    have hb := rC_b rc
    refine m_count_k hs K3.2.2.1 K3.2.2.2 rc (by omega) (fun v4 o4 z4 _ v17 e17 => ?_)
    have K4 := K3.go o4 z4
    rw [mH_i] at e17
    have ecV : x.toInt = cV (qc D) (p + 1) := by rw [(rC_E rc).2]; omega
    have e17' : v17.toInt = q' := by rw [e17]; exact K4.2.2.1.1
    obtain ⟨g1, g2, -, g4⟩ := hB.g (k := 10) (kd := 102) (n := 256) (by decide)
    have e4 := z_4 (y := 3) (s := 3) h1 rfl a1 (by decide)
    have bi := hR.ib (κ := 3)
    refine ⟨A 10, g1, g2, ?_, ?_, ?_⟩
    rotate_right
    · rw [mH_o (hB.nm (by decide)), z_cl, e4, Int.toNat_natCast, Z_lt, Z_of32, a6 3 (by decide)]
      intro hge
      refine k_fail (cc := 20) (w := p) k9 K4.2.1 bD rfl (by decide) e2' (by omega) z4 (fun v5 f1 f2 f3 _ => hQ v5 (K4.1.fl f1) (by rw [f1 14 (by decide) (by decide)]; exact K4.2.1) (fun hz => absurd hz f2) ?_)
      rw [ckCo_20 k35 (by omega)]
      exact f3
    · rw [z_in, e4]
      show _ ∧ _ < ((xb_n h (A 10) : Nat) : Int)
      omega
    · rw [mH_o (hB.nm (by decide)), z_cl, e4, Int.toNat_natCast, Z_lt, Z_of32, a6 3 (by decide)]
      intro hlt3
      have ex : (Int64.toInt32 x).toInt = (x.toInt.toNat : Nat) := by
        rw [z_of64]
        omega
      refine m_changes hX z4 h1 ex (by omega) (fun v5 r23 k5 hr23 _ => m_variableTypeOf hX k5.2.2.2 h1 ex (by omega) (fun v6 k6 _ => m_go_k hX k6.2.2.2 h1 e17' (by have := K4.2.2.1.2.2.1; omega) (by omega) (fun v7 k7 _ => ?_)))
      have K7 : vk v v7 D q' := ⟨K4.1.tr (k5.1.tr (k6.1.tr k7.1)), k7.2⟩
      have fin : ¬ vmu D (cV (qc D) (p + 1)) = 1 → vty D (cV (qc D) (p + 1)) = x2.toInt → w_M_checkConstant_L116 Qr mm (mH h F mm v7) := fun h26 h21 => by
        unfold w_M_checkConstant_L116
        exact good v7 K7 hl (fun h11 => ⟨r3 (by omega) h11, q', r3 (by omega) h11, h11, .inl ⟨k35, x, rc, hlt3⟩⟩) (by rw [ckCo_g k35 (by omega) h26 h21, eqW])
      have fb : ∀ v8, vg v v8 → (v8 14).toInt = qb D → v8 17 ≠ 0 → xf D v8 (ckCo D p x2.toInt) → w_M_checkConstant_L116 Qr mm (mH h F mm v8) := fun v8 g8 g14 n8 hxf => by
        unfold w_M_checkConstant_L116
        exact bad v8 g8 g14 n8 hxf
      have exn : x.toInt.toNat = cV (qc D) (p + 1) := by omega
      rw [exn] at hr23
      rw [exn]
      have hv : ∀ {z : Int32}, ub (qc D) (vpo D (cV (qc D) (p + 1))) = z ↔ vty D (cV (qc D) (p + 1)) = z.toInt := fun {z} => by rw [z_eq]; rfl
      refine ⟨fun k0 => ⟨fun k21 => fin ?_ (hv.mp k21), fun k21 => k_fail (cc := 21) (w := p) k9 K7.2.1 bD rfl (by decide) e2' (by omega) K7.2.2.2 (fun v8 f1 f2 f3 _ => fb v8 (K7.1.fl f1) (by rw [f1 14 (by decide) (by decide)]; exact K7.2.1) f2 ?_)⟩, fun k0 => k_fail (cc := 26) (w := p) k9 K7.2.1 bD rfl (by decide) e2' (by omega) K7.2.2.2 (fun v8 f1 f2 f3 _ => fb v8 (K7.1.fl f1) (by rw [f1 14 (by decide) (by decide)]; exact K7.2.1) f2 ?_)⟩
      · rcases hr23 with ⟨-, h9⟩ | ⟨h9, -⟩
        · exact h9
        · rw [h9] at k0; exact absurd k0 (by decide)
      · have h26 : ¬ vmu D (cV (qc D) (p + 1)) = 1 := by
          rcases hr23 with ⟨-, h9⟩ | ⟨h9, -⟩
          · exact h9
          · rw [h9] at k0; exact absurd k0 (by decide)
        rw [ckCo_21 k35 (by omega) h26 (fun h9 => k21 (hv.mpr h9))]
        exact f3
      · have h26 : vmu D (cV (qc D) (p + 1)) = 1 := by
          rcases hr23 with ⟨h9, -⟩ | ⟨-, h9⟩
          · exact absurd h9 k0
          · exact h9
        rw [ckCo_26 k35 (by omega) h26]
        exact f3
theorem x_checkImports {x1 : Int32} {Qr : xb_H → Prop} (hX : mX own mm A h F m D) (h1 : x1.toInt = m) (hz : v 17 = 0) (h14 : (v 14).toInt = qb D) (hQ : ∀ v2 h2, vg v v2 → lq mm h h2 → (v2 14).toInt = qb D → xf D v2 (sqF (ckIm D) (qt D 2)) → (v2 17 = 0 → ∀ k, k < qt D 2 → (ub (qc D) (kpo D k)).toInt = 0 → cV (qc D) (kpo D k + 1) < qt D 1) → Qr (mH h2 F mm v2)) : w_M_checkImports mm x1 (mH h F mm v) Qr := by
  have bt := (hX.2.2.2.2.2.1 2 (by decide)).1
  have bt1 := (hX.2.2.2.2.2.1 1 (by decide)).1
  have bD : qb D ≤ 12000 := by have := hX.2.2.2.1; have := hX.2.2.2.2.1; omega
  have key : ∀ (n k : Nat) (x2 x3 x4 : Int32) (v2 : Nat → Int32) (h2 : xb_H), vg v v2 → lq mm h h2 → (v2 14).toInt = qb D → xf D v2 (sqF (ckIm D) k) → (v2 17 = 0 → x2.toInt = kcn (qc D) (qp D 2) 1 k ∧ x3.toInt = kcn (qc D) (qp D 2) 2 k) → x4.toInt = k → k ≤ qt D 2 → qt D 2 - k ≤ n → (v2 17 = 0 → ∀ j, j < k → (ub (qc D) (kpo D j)).toInt = 0 → cV (qc D) (kpo D j + 1) < qt D 1) → w_M_checkImports_L7 Qr (n + 1) mm x1 x2 x3 x4 (mH h2 F mm v2) := by
    intro n
    induction n with
    | zero =>
      intro k x2 x3 x4 v2 h2 g1 l1 g14 hxf hse e4 hk hn hc
      have X2 := hX.lq l1
      have ek : k = qt D 2 := by omega
      unfold w_M_checkImports_L7 w_M_checkImports_L144
      refine ⟨X2.1.2.1, m_manyOf (s := 2) X2 h1 rfl (by decide) (fun r hr _ => ⟨fun _ => hQ v2 h2 g1 l1 g14 (by rw [← ek]; exact hxf) (by rw [← ek]; exact hc), fun hle => ?_⟩)⟩
      rw [z_le, hr, e4] at hle
      omega
    | succ n ih =>
      intro k x2 x3 x4 v2 h2 g1 l1 g14 hxf hse e4 hk hn hc
      have X2 := hX.lq l1
      unfold w_M_checkImports_L7 w_M_checkImports_L144
      refine ⟨X2.1.2.1, m_manyOf (s := 2) X2 h1 rfl (by decide) (fun r hr _ => ⟨fun hle => ?_, fun hle => ?_⟩)⟩
      · rw [z_le, hr, e4] at hle
        have ek : k = qt D 2 := by omega
        exact hQ v2 h2 g1 l1 g14 (by rw [← ek]; exact hxf) (by rw [← ek]; exact hc)
      · rw [z_le, hr, e4] at hle
        rw [mH_i]
        refine ⟨fun hn0 => hQ v2 h2 g1 l1 g14 (hxf.mo hn0 hk) (fun hz2 => absurd hz2 hn0), fun hz2 => m_placeOf (s := 2) X2 h1 rfl (by decide) e4 (by omega) (fun r7 hr7 _ => m_importAt X2 hz2 h1 e4 (by omega) (fun v3 k3 _ => ?_))⟩
        obtain ⟨s1, s2⟩ := hse hz2
        have kb1 := kcn_le (cb := qc D) (P2 := qp D 2) (κ := 1) k
        have kb2 := kcn_le (cb := qc D) (P2 := qp D 2) (κ := 2) k
        have xs : ∀ v4 : Nat → Int32, xf D v4 (ckIm D k) → xf D v4 (sqF (ckIm D) (k + 1)) := fun v4 h4 => hxf.sc hz2 h4
        have e41 : (x4 + 1).toInt = (k + 1 : Nat) := z_inc e4 (by omega)
        obtain ⟨c1, q, ⟨p1, p2, r1, r2, r3⟩, c3⟩ := (hX.2.2.2.2.2.1 2 (by decide)).2 k (by omega)
        have hkp : kpo D k = p2 := by unfold kpo; rw [rN_E r1, rN_E r2]
        -- the next turn
        have K : ∀ (y2 y3 : Int32) (v4 : Nat → Int32) (h4 : xb_H), vg v v4 → lq mm h h4 → (v4 14).toInt = qb D → xf D v4 (ckIm D k) → (y2.toInt = kcn (qc D) (qp D 2) 1 (k + 1) ∧ y3.toInt = kcn (qc D) (qp D 2) 2 (k + 1)) → (v4 17 = 0 → (ub (qc D) (kpo D k)).toInt = 0 → cV (qc D) (kpo D k + 1) < qt D 1) → w_M_checkImports_L138 (w_M_checkImports_L7 Qr (n + 1)) Qr mm x1 y2 y3 x4 (mH h4 F mm v4) := fun y2 y3 v4 h4 g4 l4 g14' hxf4 hse4 hc4 => by
          unfold w_M_checkImports_L138
          refine ih (k + 1) y2 y3 (x4 + 1) v4 h4 g4 l4 g14' (xs v4 hxf4) (fun _ => hse4) e41 (by omega) (by omega) (fun hz4 j hj hj0 => ?_)
          rcases Nat.lt_or_ge j k with h9 | h9
          · exact hc hz2 j h9 hj0
          · have ej : j = k := by omega
            subst ej
            exact hc4 hz4 hj0
        have G3 := g1.tr k3.1
        have u0 : ∀ c : Int32, ub (qc D) (kpo D k) = c → c.toInt ≠ 0 → (ub (qc D) (kpo D k)).toInt = 0 → cV (qc D) (kpo D k + 1) < qt D 1 := fun c e1 e2 e3 => by rw [e1] at e3; exact absurd e3 e2
        have kcs : ∀ κ : Nat, kcn (qc D) (qp D 2) κ (k + 1) = kcn (qc D) (qp D 2) κ k + if (ub (qc D) (kpo D k)).toInt = κ then 1 else 0 := fun κ => rfl
        have P3 := k3.2.2.1
        rw [hkp] at P3
        have hp2 : qp D 2 k ≤ 12000 := by
          obtain ⟨a2, x2', d6, d7, -⟩ := id r1
          obtain ⟨a3, x3', d8, d9, -⟩ := id r2
          have := rC_b d6
          have := rC_b d8
          have := P3.2.2.2
          have := hX.2.2.2.2.1
          omega
        refine ⟨fun n0 => ⟨fun n1 => ⟨fun n2 => K _ _ v3 h2 G3 l1 k3.2.1 (by rw [ckIm_n n0 n1 n2]; exact k3.2.2.2) (by rw [kcs, kcs, if_neg (fun h9 => n1 (by rw [z_eq]; exact h9)), if_neg (fun h9 => n2 (by rw [z_eq]; exact h9))]; exact ⟨s1, s2⟩) (fun _ h9 => absurd (by rw [z_eq]; exact h9) n0), fun k2 => ?_⟩, fun k1 h14 e14 => ?_⟩, fun k0 => ?_⟩
        · have hl : rLim (qc D) (p2 + 1) q := by
            rw [hkp] at k2
            rcases r3 with ⟨r4, -⟩ | ⟨r4, -⟩ | ⟨-, r4⟩ | ⟨r4, -⟩
            · rw [r4] at k2; exact absurd k2 (by decide)
            · rw [r4] at k2; exact absurd k2 (by decide)
            · exact r4
            · rw [r4] at k2; exact absurd k2 (by decide)
          have L : ∀ y : Int32, (y ≠ 0 ↔ 0 < kcn (qc D) (qp D 2) 2 k) → w_M_checkImports_L132 (w_M_checkImports_L7 Qr (n + 1)) Qr mm x1 x2 x3 x4 y r7 1 mm (mH h2 F mm v3) := fun y hy => by
            unfold w_M_checkImports_L132
            refine ⟨X2.1.2.1, x_limitsFault (v := v) (w := qp D 2 k) X2 ⟨G3, k3.2.1, P3, k3.2.2.2⟩ hl c3 hr7 hp2 (fun v4 h4 g4 g14' l4 xf4 _ => K _ _ v4 h4 g4 (l1.tr l4) g14' ?_ ?_ (fun _ => u0 2 k2 (by decide)))⟩
            · rw [ckIm_2 k2, hkp]
              rw [show decide ((1 : Int32) ≠ 0) = true from rfl, show decide (y ≠ 0) = decide (0 < kcn (qc D) (qp D 2) 2 k) from decide_eq_decide.mpr hy] at xf4
              exact xf4
            · rw [kcs, kcs, k2, if_neg (by decide), if_pos (by decide)]
              exact ⟨s1, z_inc s2 (by omega)⟩
          refine ⟨fun h9 => L 0 ⟨fun h8 => absurd rfl h8, fun h8 => ?_⟩, fun h9 => L 1 ⟨fun _ => ?_, fun _ => by decide⟩⟩
          all_goals
            rw [z_le, s2] at h9
            simp only [Int32.reduceToInt] at h9
            omega
        · have hl : rTab (qc D) (p2 + 1) q := by
            rw [hkp] at k1
            rcases r3 with ⟨r4, -⟩ | ⟨-, r4⟩ | ⟨r4, -⟩ | ⟨r4, -⟩
            · rw [r4] at k1; exact absurd k1 (by decide)
            · exact r4
            · rw [r4] at k1; exact absurd k1 (by decide)
            · rw [r4] at k1; exact absurd k1 (by decide)
          have hq1 : p2 + 2 ≤ q := by
            obtain ⟨-, -, a3, x3, d9, d10⟩ := hl
            have := rC_b d9
            rcases d10 with ⟨-, d10⟩ | ⟨-, y, d10⟩
            · omega
            · have := rC_b d10
              omega
          rw [mH_i, mH_I] at e14
          subst e14
          have hE := hX.2.2.2.2.1
          have P4 : rdP (va_up v3 15 (v3 15 + 1)) (qb D) (p2 + 1 + 1) (qe D) := ⟨by rw [xh_up, if_pos rfl]; exact z_inc P3.1 (by omega), by rw [xh_up, if_neg (by decide)]; exact P3.2.1, by have := P3.2.2.1; omega, by omega⟩
          have G4 : vg v (va_up v3 15 (v3 15 + 1)) := fun j j1 j2 j3 j4 j5 => by rw [xh_up, if_neg j2]; exact G3 j j1 j2 j3 j4 j5
          have L : ∀ y : Int32, (y ≠ 0 ↔ 0 < kcn (qc D) (qp D 2) 1 k) → w_M_checkImports_L104 (w_M_checkImports_L7 Qr (n + 1)) Qr mm x1 x2 x3 x4 y r7 0 mm (mH h2 F mm (va_up v3 15 (v3 15 + 1))) := fun y hy => by
            unfold w_M_checkImports_L104
            refine ⟨X2.1.2.1, x_limitsFault (v := v) (w := qp D 2 k) X2 ⟨G4, by rw [xh_up, if_neg (by decide)]; exact k3.2.1, P4, by rw [xh_up, if_neg (by decide)]; exact k3.2.2.2⟩ hl.2 c3 hr7 hp2 (fun v4 h4 g4 g14' l4 xf4 _ => K _ _ v4 h4 g4 (l1.tr l4) g14' ?_ ?_ (fun _ => u0 1 k1 (by decide)))⟩
            · rw [ckIm_1 k1, hkp]
              rw [show decide ((0 : Int32) ≠ 0) = false from rfl, show decide (y ≠ 0) = decide (0 < kcn (qc D) (qp D 2) 1 k) from decide_eq_decide.mpr hy] at xf4
              exact xf4
            · rw [kcs, kcs, k1, if_pos (by decide), if_neg (by decide)]
              exact ⟨z_inc s1 (by omega), s2⟩
          refine ⟨fun h9 => L 0 ⟨fun h8 => absurd rfl h8, fun h8 => ?_⟩, fun h9 => L 1 ⟨fun _ => ?_, fun _ => by decide⟩⟩
          all_goals
            rw [z_le, s1] at h9
            simp only [Int32.reduceToInt] at h9
            omega
        · have hl : ∃ x, rC (qc D) (p2 + 1) = some (q, x) := by
            rw [hkp] at k0
            rcases r3 with ⟨-, r4⟩ | ⟨r4, -⟩ | ⟨r4, -⟩ | ⟨r4, -⟩
            · exact r4
            · rw [r4] at k0; exact absurd k0 (by decide)
            · rw [r4] at k0; exact absurd k0 (by decide)
            · rw [r4] at k0; exact absurd k0 (by decide)
          obtain ⟨x, hx⟩ := hl
          have hb := rC_b hx
          refine m_count_k X2.rd P3 k3.2.2.2 hx c3 (fun v4 o4 z4 _ => m_manyOf (s := 1) X2 h1 rfl (by decide) (fun r19 hr19 _ => ⟨fun hlt => K _ _ v4 h2 (G3.tr o4.vg) l1 (by rw [o4.e14]; exact k3.2.1) ?_ ?_ (fun _ _ => ?_), fun hlt => k_fail (cc := 20) (w := qp D 2 k) X2.1.2.1 (by rw [o4.e14]; exact k3.2.1) bD rfl (by decide) hr7 hp2 z4 (fun v5 f1 f2 f3 _ => K _ _ v5 h2 ((G3.tr o4.vg).fl f1) l1 (by rw [f1 14 (by decide) (by decide), o4.e14]; exact k3.2.1) ?_ ?_ (fun h9 => absurd h9 f2))⟩))
          · rw [ckIm_0 k0, hkp, (rC_E hx).2]
            rw [Z_lt, Z_of32, hr19] at hlt
            rw [if_neg (by omega)]
            exact z4
          · rw [kcs, kcs, k0, if_neg (by decide), if_neg (by decide)]
            exact ⟨s1, s2⟩
          · rw [Z_lt, Z_of32, hr19] at hlt
            rw [hkp, (rC_E hx).2]
            omega
          · rw [ckIm_0 k0, hkp, (rC_E hx).2]
            rw [Z_lt, Z_of32, hr19] at hlt
            rw [if_pos (by omega)]
            exact f3
          · rw [kcs, kcs, k0, if_neg (by decide), if_neg (by decide)]
            exact ⟨s1, s2⟩
  unfold w_M_checkImports
  exact ⟨qt D 2 + 1, key (qt D 2) 0 0 0 0 v h vg.rf lq.rf h14 hz (fun _ => ⟨rfl, rfl⟩) rfl (by omega) (by omega) (fun _ j hj => by omega)⟩
end RKA
