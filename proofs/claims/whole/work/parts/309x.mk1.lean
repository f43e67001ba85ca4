-- the reference's checker: all but bodies
def lq (mm : Nat) (h h' : xb_H) : Prop := xb_k h' = xb_k h ∧ xb_n h' = xb_n h ∧ xb_r h' = xb_r h ∧ (∀ a, a ≠ mm → xb_l h' a = xb_l h a) ∧ ∀ k, k ≠ 91 → xb_l h' mm k = xb_l h mm k
/-- an expression that gives a constant, from p to E -/
def ckE (D : zM) (p E : Nat) : Prop := ∃ q, q + 1 = E ∧ ub (qc D) q = 11 ∧ ((ub (qc D) p = 35 ∧ ∃ x, rC (qc D) (p + 1) = some (q, x) ∧ x.toInt < iM D 3) ∨ (∃ op : Nat, (ub (qc D) p).toInt = op ∧ 65 ≤ op ∧ op ≤ 68 ∧ rW (qc D) (wk_sh op) (p + 1) q))
section MK1
variable {own : Nat → Nat} {mm m b e p q st N t u f g : Nat} {A : Nat → Nat} {h h' h2 : xb_H} {F : Nat → Nat → Int32} {v v' v2 cb : Nat → Int32} {D : zM}
theorem lq.rf : lq mm h h := ⟨rfl, rfl, rfl, fun _ _ => rfl, fun _ _ => rfl⟩
theorem lq.tr (h1 : lq mm h h') (h2' : lq mm h' h2) : lq mm h h2 := ⟨h2'.1.trans h1.1, h2'.2.1.trans h1.2.1, h2'.2.2.1.trans h1.2.2.1, fun a ha => (h2'.2.2.2.1 a ha).trans (h1.2.2.2.1 a ha), fun k hk => (h2'.2.2.2.2 k hk).trans (h1.2.2.2.2 k hk)⟩
theorem lq.L {y : Int64} : lq mm h (xb_L h mm 91 y) := ⟨rfl, rfl, rfl, fun a ha => by rw [xh_lL, if_neg ha], fun k hk => by rw [xh_lL, if_pos rfl, xh_up, if_neg hk]⟩
theorem mB.lq (hB : mB own mm A h) (hl : lq mm h h') : mB own mm A h' := by
  obtain ⟨l1, l2, l3, -, -⟩ := hl
  unfold mB
  rw [l1, l2, l3]
  exact hB
theorem mX.lq (hX : mX own mm A h F m D) (hl : lq mm h h') : mX own mm A h' F m D := by
  refine ⟨hX.1.lq hl, ?_, hX.2.2⟩
  obtain ⟨l1, l2, l3, -, -⟩ := hl
  unfold mdH
  rw [l2]
  exact hX.2.1
theorem vg.fl (h1 : vg v v') (h2 : ∀ j, j ≠ 17 → j ≠ 18 → v2 j = v' j) : vg v v2 := fun j a b c d f => (h2 j d f).trans (h1 j a b c d f)
theorem m_limitsFault {x1 x2 x3 : Int32} {Qr : xb_H → Prop} (hX : mX own mm A h F m D) (hk : vk v v' D p) (hl : rLim (qc D) p q) (hq : q ≤ qe D) (hQ : ∀ v2 h2, vg v v2 → lq mm h h2 → Qr (mH h2 F mm v2)) : w_M_limitsFault mm x1 x2 x3 (mH h F mm v') Qr := by
  have L54 : ∀ (v2 : Nat → Int32) (h2 : xb_H) (y0 : Int32), vg v v2 → lq mm h h2 → w_M_limitsFault_L54 Qr mm x2 x3 y0 (mH h2 F mm v2) := fun v2 h2 y0 g1 l1 => by
    have k9 : xb_k h2 mm = 9 := by rw [l1.1]; exact hX.1.2.1
    unfold w_M_limitsFault_L54 w_M_limitsFault_L82
    exact ⟨fun _ => ⟨fun _ => hQ v2 h2 g1 l1, fun _ => ⟨k9, m_fail k9 (by decide) (fun v3 f1 f2 _ => hQ v3 h2 (g1.fl f1) l1)⟩⟩, fun _ => ⟨k9, m_fail k9 (by decide) (fun v3 f1 f2 _ => hQ v3 h2 (g1.fl f1) l1)⟩⟩
  unfold w_M_limitsFault
  refine ⟨hX.1.2.1, m_leastRead hX.rd hk.2.2.1 hk.2.2.2 hl hq (fun v2 r y o2 z2 _ _ _ _ _ => ?_)⟩
  have G := hk.1.tr o2.vg
  have LL : lq mm h (xb_L h mm 91 y) := lq.L
  have L49 : w_M_limitsFault_L49 Qr mm x2 x3 (mH (xb_L h mm 91 y) F mm v2) := by unfold w_M_limitsFault_L49; exact L54 _ _ _ G LL
  have L53 : w_M_limitsFault_L53 Qr mm x2 x3 (mH (xb_L h mm 91 y) F mm v2) := by unfold w_M_limitsFault_L53; exact L54 _ _ _ G LL
  have L25 : w_M_limitsFault_L25 Qr mm x1 x2 x3 r (mH (xb_L h mm 91 y) F mm v2) := by
    unfold w_M_limitsFault_L25
    exact ⟨fun _ => L53, fun _ => ⟨fun _ => L49, fun _ => ⟨hX.1.2.1, fun _ => L53, fun _ => L49⟩⟩⟩
  exact ⟨fun _ => L25, fun _ => ⟨fun _ => L49, fun _ => L25⟩⟩
/-- the first instruction of a list -/
theorem exR.fst {E : Nat} (hx : exR cb p E) : ∃ q', rW cb (wk_sh ((cb p).toInt % 256)) (p + 1) q' ∧ (¬ ub cb p = 11 → q' < E) ∧ (4 ≤ wk_sh ((cb p).toInt % 256) → ub cb q' = 11 → q' + 1 = E) := by
  obtain ⟨h1, ν, ⟨n, hw⟩, k, hr⟩ := hx
  cases k with
  | zero => exact hr.elim
  | succ k =>
  cases n with
  | zero => exact hw.elim
  | succ n =>
  obtain ⟨r1, q', r2, r3⟩ := hr
  unfold wk at hw
  obtain ⟨w0, w1, w2, w3, w4, w5⟩ := hw
  refine ⟨q', r2.1, fun hn => ?_, fun h4 hu => ?_⟩
  · rcases r3 with r3 | r3
    · exfalso
      have hs : wk_sh ((cb p).toInt % 256) = 0 ∨ wk_sh ((cb p).toInt % 256) = 2 ∨ wk_sh ((cb p).toInt % 256) = 1 ∨ wk_sh ((cb p).toInt % 256) = 3 ∨ 4 ≤ wk_sh ((cb p).toInt % 256) := by omega
      rcases hs with hs | hs | hs | hs | hs
      · have := w1 hs
        cases n with
        | zero => exact this.elim
        | succ n => have := this.1; omega
      · obtain ⟨o, st', e1, -⟩ := w3 hs
        cases e1
      · have := (w2 hs).1
        omega
      · apply hn
        have := wk_sh3 hs
        rw [z_eq]
        unfold ub
        rw [z_255]
        exact this
      · obtain ⟨q2, -, e2, e3, -⟩ := w5 hs
        have := e2.1
        omega
    · exact r3.1
  · obtain ⟨q2, e1, e2, e3, e4⟩ := w5 h4
    have e5 := r2.2.1 h4
    have e6 : q2 = q' := by omega
    subst e6
    cases n with
    | zero => exact e4.elim
    | succ n =>
      unfold wk at e4
      obtain ⟨y0, y1, y2, y3, y4, y5⟩ := e4
      have hs3 : wk_sh ((cb q2).toInt % 256) = 3 := by
        rw [ub_op, hu]
        rfl
      exact ((y4 hs3).1 rfl).2
theorem m_checkConstant {x1 x2 : Int32} {E : Nat} {Qr : xb_H → Prop} (hX : mX own mm A h F m D) (h1 : x1.toInt = m) (hk : vk v v' D p) (hx : exR (qc D) p E) (hE : E ≤ qe D) (hQ : ∀ v2, vg v v2 → (v2 17 = 0 → vk v v2 D E ∧ ckE D p E) → Qr (mH h F mm v2)) : w_M_checkConstant mm x1 x2 (mH h F mm v') Qr := by
  have hs := hX.rd
  obtain ⟨hB, ⟨a1, a2, a3, a4, a5, a6⟩, hR⟩ := id hX
  have k9 := hB.2.1
  have hlt := hx.1
  obtain ⟨q', r1, r2, r3⟩ := hx.fst
  have hlr := rW_b r1
  have bad : ∀ v2, vg v v2 → v2 17 ≠ 0 → w_M_checkConstant_L173 Qr mm (mH h F mm v2) := fun v2 g1 hn => by
    unfold w_M_checkConstant_L173 w_M_checkConstant_L203
    rw [mH_i]
    exact ⟨k9, fun _ => hQ v2 g1 (fun hz => absurd hz hn), fun hz => absurd hz hn⟩
  have good : ∀ v2, vk v v2 D q' → q' < E → (ub (qc D) q' = 11 → q' + 1 = E ∧ ckE D p E) → w_M_checkConstant_L173 Qr mm (mH h F mm v2) := fun v2 k2 hl hc => by
    unfold w_M_checkConstant_L173 w_M_checkConstant_L203
    rw [mH_i]
    refine ⟨k9, fun hn => absurd k2.2.2.2 hn, fun _ v3 e3 => m_next_k hs k2.2.2.1 k2.2.2.2 (by omega) (fun v4 o4 z4 _ => ⟨fun h11 => ?_, fun _ => m_fail k9 (by decide) (fun v5 f1 f2 _ => hQ v5 ((k2.1.tr o4.vg).fl f1) (fun hz => absurd hz f2))⟩)⟩
    obtain ⟨c1, c2⟩ := hc h11
    refine hQ v4 (k2.1.tr o4.vg) (fun _ => ⟨?_, c2⟩)
    have := k2.go o4 z4
    rw [c1] at this
    exact this
  unfold w_M_checkConstant
  refine ⟨k9, fun v2' e2 => m_next_k hs hk.2.2.1 hk.2.2.2 (by omega) (fun v3 o3 z3 _ v5 e5 => ?_)⟩
  have K3 := hk.go o3 z3
  obtain ⟨op, hop⟩ : ∃ op : Nat, (ub (qc D) p).toInt = op := ⟨(ub (qc D) p).toInt.toNat, by have := ub_r (cb := qc D) (p := p); omega⟩
  have hsh : wk_sh ((qc D p).toInt % 256) = wk_sh op := by rw [ub_op, hop]
  rw [hsh] at r1 r3
  have L166 : w_M_checkConstant_L166 Qr mm v2' (mH h F mm v3) := by
    unfold w_M_checkConstant_L166
    exact ⟨k9, m_fail k9 (by decide) (fun v5 f1 f2 _ => bad v5 (K3.1.fl f1) f2)⟩
  rw [mH_i] at e5
  refine ⟨fun n35 => ⟨fun _ => L166, fun k65 => ⟨fun _ => L166, fun k68 h9 e9 => ?_⟩⟩, fun k35 => ?_⟩
  · rw [mH_I, e5, va_id] at e9
    subst e9
    rw [z_lt, hop] at k65 k68
    simp only [Int32.reduceToInt] at k65 k68
    have s4 : 4 ≤ wk_sh op := by
      have : op = 65 ∨ op = 66 ∨ op = 67 ∨ op = 68 := by omega
      rcases this with e | e | e | e <;> subst e <;> decide
    have n11 : ¬ ub (qc D) p = 11 := fun e => by rw [z_eq, hop] at e; simp only [Int32.reduceToInt] at e; omega
    have hl := r2 n11
    refine m_written_k hop hs K3.2.2.1 K3.2.2.2 r1 (by omega) (fun v4 o4 z4 _ => ?_)
    have K4 := K3.go o4 z4
    refine ⟨fun _ => good v4 K4 hl (fun h11 => ⟨r3 s4 h11, q', r3 s4 h11, h11, .inr ⟨op, hop, by omega, by omega, r1⟩⟩), fun _ => m_fail k9 (by decide) (fun v5 f1 f2 _ => bad v5 (K4.1.fl f1) f2)⟩
  · have e35 : op = 35 := by
      rw [z_eq, hop] at k35
      simp only [Int32.reduceToInt] at k35
      omega
    have hs4 : wk_sh op = 4 := by rw [e35]; rfl
    rw [hs4] at r1 r3
    have n11 : ¬ ub (qc D) p = 11 := fun e => by rw [z_eq, hop] at e; simp only [Int32.reduceToInt] at e; omega
    have hl := r2 n11
    obtain ⟨x, rc⟩ := rW_4i.mp r1
    have hb := rC_b rc
    refine m_count_k hs K3.2.2.1 K3.2.2.2 rc (by omega) (fun v4 o4 z4 _ v17 e17 => ?_)
    have K4 := K3.go o4 z4
    rw [mH_i] at e17
    have e17' : v17.toInt = q' := by rw [e17]; exact K4.2.2.1.1
    obtain ⟨g1, g2, -, g4⟩ := hB.g (k := 10) (kd := 102) (n := 256) (by decide)
    have e4 := z_4 (y := 3) (s := 3) h1 rfl a1 (by decide)
    have bi := hR.ib (κ := 3)
    refine ⟨A 10, g1, g2, ?_, ?_, fun _ => m_fail k9 (by decide) (fun v5 f1 f2 _ => hQ v5 (K4.1.fl f1) (fun hz => absurd hz f2))⟩
    · rw [z_in, e4]
      show _ ∧ _ < ((xb_n h (A 10) : Nat) : Int)
      omega
    · rw [mH_o (hB.nm (by decide)), z_cl, e4, Int.toNat_natCast, Z_lt, Z_of32, a6 3 (by decide)]
      intro hlt3
      have ex : (Int64.toInt32 x).toInt = (x.toInt.toNat : Nat) := by
        rw [z_of64]
        omega
      refine m_changes hX z4 h1 ex (by omega) (fun v5 r23 k5 _ _ => m_variableTypeOf hX k5.2.2.2 h1 ex (by omega) (fun v6 k6 _ => m_go_k hX k6.2.2.2 h1 e17' (by have := K4.2.2.1.2.2.1; omega) (by omega) (fun v7 k7 _ => ?_)))
      have K7 : vk v v7 D q' := ⟨K4.1.tr (k5.1.tr (k6.1.tr k7.1)), k7.2⟩
      have fin : w_M_checkConstant_L116 Qr mm (mH h F mm v7) := by
        unfold w_M_checkConstant_L116
        exact good v7 K7 hl (fun h11 => ⟨r3 (by omega) h11, q', r3 (by omega) h11, h11, .inl ⟨k35, x, rc, hlt3⟩⟩)
      have fb : ∀ v8, vg v v8 → v8 17 ≠ 0 → w_M_checkConstant_L116 Qr mm (mH h F mm v8) := fun v8 g8 n8 => by
        unfold w_M_checkConstant_L116
        exact bad v8 g8 n8
      exact ⟨fun _ => ⟨fun _ => fin, fun _ => m_fail k9 (by decide) (fun v8 f1 f2 _ => fb v8 (K7.1.fl f1) f2)⟩, fun _ => m_fail k9 (by decide) (fun v8 f1 f2 _ => fb v8 (K7.1.fl f1) f2)⟩
theorem m_checkImports {x1 : Int32} {Qr : xb_H → Prop} (hX : mX own mm A h F m D) (h1 : x1.toInt = m) (hz : v 17 = 0) (hQ : ∀ v2 h2, vg v v2 → lq mm h h2 → (v2 17 = 0 → ∀ k, k < qt D 2 → (ub (qc D) (kpo D k)).toInt = 0 → cV (qc D) (kpo D k + 1) < qt D 1) → Qr (mH h2 F mm v2)) : w_M_checkImports mm x1 (mH h F mm v) Qr := by
  have bt := (hX.2.2.2.2.2.1 2 (by decide)).1
  have bt1 := (hX.2.2.2.2.2.1 1 (by decide)).1
  have key : ∀ (n k : Nat) (x2 x3 x4 : Int32) (v2 : Nat → Int32) (h2 : xb_H), vg v v2 → lq mm h h2 → x4.toInt = k → k ≤ qt D 2 → qt D 2 - k ≤ n → (v2 17 = 0 → ∀ j, j < k → (ub (qc D) (kpo D j)).toInt = 0 → cV (qc D) (kpo D j + 1) < qt D 1) → w_M_checkImports_L7 Qr (n + 1) mm x1 x2 x3 x4 (mH h2 F mm v2) := by
    intro n
    induction n with
    | zero =>
      intro k x2 x3 x4 v2 h2 g1 l1 e4 hk hn hc
      have X2 := hX.lq l1
      have ek : k = qt D 2 := by omega
      unfold w_M_checkImports_L7 w_M_checkImports_L144
      refine ⟨X2.1.2.1, m_manyOf (s := 2) X2 h1 rfl (by decide) (fun r hr _ => ⟨fun _ => hQ v2 h2 g1 l1 (by rw [← ek]; exact hc), fun hle => ?_⟩)⟩
      rw [z_le, hr, e4] at hle
      omega
    | succ n ih =>
      intro k x2 x3 x4 v2 h2 g1 l1 e4 hk hn hc
      have X2 := hX.lq l1
      unfold w_M_checkImports_L7 w_M_checkImports_L144
      refine ⟨X2.1.2.1, m_manyOf (s := 2) X2 h1 rfl (by decide) (fun r hr _ => ⟨fun hle => ?_, fun hle => ?_⟩)⟩
      · rw [z_le, hr, e4] at hle
        have ek : k = qt D 2 := by omega
        exact hQ v2 h2 g1 l1 (by rw [← ek]; exact hc)
      · rw [z_le, hr, e4] at hle
        rw [mH_i]
        refine ⟨fun hn0 => hQ v2 h2 g1 l1 (fun hz2 => absurd hz2 hn0), fun hz2 => m_placeOf (s := 2) X2 h1 rfl (by decide) e4 (by omega) (fun r7 hr7 _ => m_importAt X2 hz2 h1 e4 (by omega) (fun v3 k3 _ => ?_))⟩
        have e41 : (x4 + 1).toInt = (k + 1 : Nat) := z_inc e4 (by omega)
        obtain ⟨c1, q, ⟨p1, p2, r1, r2, r3⟩, c3⟩ := (hX.2.2.2.2.2.1 2 (by decide)).2 k (by omega)
        have hkp : kpo D k = p2 := by unfold kpo; rw [rN_E r1, rN_E r2]
        -- the next turn
        have K : ∀ (y2 y3 : Int32) (v4 : Nat → Int32) (h4 : xb_H), vg v v4 → lq mm h h4 → (v4 17 = 0 → (ub (qc D) (kpo D k)).toInt = 0 → cV (qc D) (kpo D k + 1) < qt D 1) → w_M_checkImports_L138 (w_M_checkImports_L7 Qr (n + 1)) Qr mm x1 y2 y3 x4 (mH h4 F mm v4) := fun y2 y3 v4 h4 g4 l4 hc4 => by
          unfold w_M_checkImports_L138
          refine ih (k + 1) y2 y3 (x4 + 1) v4 h4 g4 l4 e41 (by omega) (by omega) (fun hz4 j hj hj0 => ?_)
          rcases Nat.lt_or_ge j k with h9 | h9
          · exact hc hz2 j h9 hj0
          · have ej : j = k := by omega
            subst ej
            exact hc4 hz4 hj0
        have G3 := g1.tr k3.1
        have u0 : ∀ c : Int32, ub (qc D) (kpo D k) = c → c.toInt ≠ 0 → (ub (qc D) (kpo D k)).toInt = 0 → cV (qc D) (kpo D k + 1) < qt D 1 := fun c e1 e2 e3 => by rw [e1] at e3; exact absurd e3 e2
        have P3 := k3.2.2.1
        rw [hkp] at P3
        refine ⟨fun n0 => ⟨fun n1 => ⟨fun n2 => K _ _ v3 h2 G3 l1 (fun _ h9 => absurd (by rw [z_eq]; exact h9) n0), fun k2 => ?_⟩, fun k1 h14 e14 => ?_⟩, fun k0 => ?_⟩
        · have hl : rLim (qc D) (p2 + 1) q := by
            rw [hkp] at k2
            rcases r3 with ⟨r4, -⟩ | ⟨r4, -⟩ | ⟨-, r4⟩ | ⟨r4, -⟩
            · rw [r4] at k2; exact absurd k2 (by decide)
            · rw [r4] at k2; exact absurd k2 (by decide)
            · exact r4
            · rw [r4] at k2; exact absurd k2 (by decide)
          have L : ∀ y, w_M_checkImports_L132 (w_M_checkImports_L7 Qr (n + 1)) Qr mm x1 x2 x3 x4 y r7 1 mm (mH h2 F mm v3) := fun y => by
            unfold w_M_checkImports_L132
            exact ⟨X2.1.2.1, m_limitsFault (v := v) X2 ⟨G3, k3.2.1, P3, k3.2.2.2⟩ hl c3 (fun v4 h4 g4 l4 _ => K _ _ v4 h4 g4 (l1.tr l4) (fun _ => u0 2 k2 (by decide)))⟩
          exact ⟨fun _ => L 0, fun _ => L 1⟩
        · have hl : rTab (qc D) (p2 + 1) q := by
            rw [hkp] at k1
            rcases r3 with ⟨r4, -⟩ | ⟨-, r4⟩ | ⟨r4, -⟩ | ⟨r4, -⟩
            · rw [r4] at k1; exact absurd k1 (by decide)
            · exact r4
            · rw [r4] at k1; exact absurd k1 (by decide)
            · rw [r4] at k1; exact absurd k1 (by decide)
          have hq1 : p2 + 2 ≤ q := by
            obtain ⟨-, -, a3, x3, d9, d10⟩ := hl
            have := rC_b d9
            rcases d10 with ⟨-, d10⟩ | ⟨-, y, d10⟩
            · omega
            · have := rC_b d10
              omega
          rw [mH_i, mH_I] at e14
          subst e14
          have hE := hX.2.2.2.2.1
          have P4 : rdP (va_up v3 15 (v3 15 + 1)) (qb D) (p2 + 1 + 1) (qe D) := ⟨by rw [xh_up, if_pos rfl]; exact z_inc P3.1 (by omega), by rw [xh_up, if_neg (by decide)]; exact P3.2.1, by have := P3.2.2.1; omega, by omega⟩
          have G4 : vg v (va_up v3 15 (v3 15 + 1)) := fun j j1 j2 j3 j4 j5 => by rw [xh_up, if_neg j2]; exact G3 j j1 j2 j3 j4 j5
          have L : ∀ y, w_M_checkImports_L104 (w_M_checkImports_L7 Qr (n + 1)) Qr mm x1 x2 x3 x4 y r7 0 mm (mH h2 F mm (va_up v3 15 (v3 15 + 1))) := fun y => by
            unfold w_M_checkImports_L104
            exact ⟨X2.1.2.1, m_limitsFault (v := v) X2 ⟨G4, by rw [xh_up, if_neg (by decide)]; exact k3.2.1, P4, by rw [xh_up, if_neg (by decide)]; exact k3.2.2.2⟩ hl.2 c3 (fun v4 h4 g4 l4 _ => K _ _ v4 h4 g4 (l1.tr l4) (fun _ => u0 1 k1 (by decide)))⟩
          exact ⟨fun _ => L 0, fun _ => L 1⟩
        · have hl : ∃ x, rC (qc D) (p2 + 1) = some (q, x) := by
            rw [hkp] at k0
            rcases r3 with ⟨-, r4⟩ | ⟨r4, -⟩ | ⟨r4, -⟩ | ⟨r4, -⟩
            · exact r4
            · rw [r4] at k0; exact absurd k0 (by decide)
            · rw [r4] at k0; exact absurd k0 (by decide)
            · rw [r4] at k0; exact absurd k0 (by decide)
          obtain ⟨x, hx⟩ := hl
          have hb := rC_b hx
          refine m_count_k X2.rd P3 k3.2.2.2 hx c3 (fun v4 o4 z4 _ => m_manyOf (s := 1) X2 h1 rfl (by decide) (fun r19 hr19 _ => ⟨fun hlt => K _ _ v4 h2 (G3.tr o4.vg) l1 (fun _ _ => ?_), fun _ => m_fail X2.1.2.1 (by decide) (fun v5 f1 f2 _ => K _ _ v5 h2 ((G3.tr o4.vg).fl f1) l1 (fun h9 => absurd h9 f2))⟩))
          rw [Z_lt, Z_of32, hr19] at hlt
          rw [hkp, (rC_E hx).2]
          omega
  unfold w_M_checkImports
  exact ⟨qt D 2 + 1, key (qt D 2) 0 0 0 0 v h vg.rf lq.rf rfl (by omega) (by omega) (fun _ j hj => by omega)⟩
end MK1
