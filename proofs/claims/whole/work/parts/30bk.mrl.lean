-- the reference: a run, locals and variables
/-- locals and variables: the outcome -/
def plR (D : zM) (b nl : Nat) (B : ctN) (ν0 : Nat → Int32) (op a : Nat) (c : List Int) (gs : List gF) (w u : Nat → Int64) (gv : Nat → Nat) (z : uZ) (u' : Nat → Int64) : Prop :=
  ∃ i x : Nat, (ν0 (a + 1)).toInt = i ∧ B a x ∧
  ((op = 32 ∧ i < nl ∧ u' = u ∧ ∃ τ, z = .inl (τ :: c, gs, x, va_up w (b + nl + c.length) (w (b + i)))) ∨
   (op = 33 ∧ i < nl ∧ u' = u ∧ ∃ τ c2, c = τ :: c2 ∧ z = .inl (c2, gs, x, va_up w (b + i) (w (b + nl + c2.length)))) ∨
   (op = 34 ∧ i < nl ∧ u' = u ∧ ∃ τ c2, c = τ :: c2 ∧ z = .inl (c, gs, x, va_up w (b + i) (w (b + nl + c2.length)))) ∨
   (op = 35 ∧ i < iM D 3 + qt D 6 ∧ u' = u ∧ z = .inl (vty D i :: c, gs, x, va_up w (b + nl + c.length) (arV (vty D i) (u (gv i))))) ∨
   (op = 36 ∧ i < iM D 3 + qt D 6 ∧ ∃ c2, c = vty D i :: c2 ∧ u' = va_up u (gv i) (w (b + nl + c2.length)) ∧ z = .inl (c2, gs, x, w)))
section MRL
variable {own : Nat → Nat} {mm m i ip k f t b nl o top q a o1 op : Nat} {A : Nat → Nat} {h h' h2 : xb_H} {F F' F2 : Nat → Nat → Int32} {v v' v2 : Nat → Int32} {D : zM} {DM : Nat → zM} {len rl K : Nat} {Q : xb_H → Prop} {Ql : Int64 → xb_H → Prop} {φ φ' : Nat → Nat → Int32} {ν ν' : Nat → Int32} {c c' ex pre : List Int} {gs g1 : List gF} {T p0 E : Nat} {lo ν0 ν1 cb : Nat → Int32} {G : ctG} {V : Nat → Prop} {rm y res : Int} {r : List cX} {nst : Prop} {x : Nat × Option Nat}
/-- a number is written with the instruction -/
theorem n_cnt (hvk : vok cb ν0 ν1 p0 E G V) (hVa : V a) (hwk : wOK cb ν0 E V a gs) (s4 : wk_sh ((cb a).toInt % 256) = 4) : ∃ (q : Nat) (x : Int64), rC cb (a + 1) = some (q, x) ∧ (ν0 (a + 1)).toBitVec.toNat = x.toBitVec.toNat ∧ (ν0 a).toInt = q ∧ ν1 a = ν0 a ∧ q < E := by
  obtain ⟨q, hnr, q1, q2, q3, q4⟩ := wOK.nx hvk hVa hwk (by omega)
  obtain ⟨n1, n2, n3⟩ := hnr
  rw [s4] at n1 n3
  obtain ⟨x, n1⟩ := n1.2.2.1 rfl
  obtain ⟨q', x', k1, k2, -⟩ := n3 (by omega)
  rw [n1] at k1
  simp only [Option.some.injEq, Prod.mk.injEq] at k1
  rw [← k1.2] at k2
  exact ⟨q, x, n1, k2, n2 (by omega), (hvk.2.1 a hVa).2.2.2 (by omega), q2⟩
theorem va_2 {α : Type} {w : Nat → α} {p q : Nat} {z : α} (hz : z = w q) (h9 : q ≠ p) : va_up (va_up w p z) q z = va_up w p z := by
  funext j
  rw [xh_up _ q]
  split
  · next e => rw [xh_up, if_neg (by omega), hz, e]
  · rfl
theorem pF.L61 {g : Nat} {z : Int64} (hB : mB own mm A h) : pF own mm A h F v (xb_L h (A 61) g z) F v ∧ rwd A (xb_L h (A 61) g z) F v = (va_up (xb_l h (A 61)) g z, (rwd A h F v).2) ∧ xb_l (xb_L h (A 61) g z) (A 74) = xb_l h (A 74) := by
  have xo : ∀ d, d ≠ A 61 → xb_l (xb_L h (A 61) g z) d = xb_l h d := fun d hd => by
    rw [show xb_l (xb_L h (A 61) g z) = va_up (xb_l h) (A 61) (va_up (xb_l h (A 61)) g z) from rfl, xh_up, if_neg hd]
  have q : ∀ k, k ∈ kL → (∃ e ∈ aL, e.1 = k) ∧ k ≠ 61 := by decide
  have n74 := xo (A 74) (hB.ne (by decide) (by decide) (by decide))
  refine ⟨⟨⟨f0.L (by rw [hB.o (by decide)]; omega), fun _ _ => rfl, fun k hk => xo _ (hB.ne (q k hk).1 (by decide) (q k hk).2), xo _ (Ne.symm (hB.nm (by decide))), fun h9 j => by rw [n74]; exact h9 j⟩, fun _ _ _ _ => rfl⟩, ?_, n74⟩
  unfold rwd
  rw [xl_L, xo _ (hB.ne (j := 87) (by decide) (by decide) (by decide))]
theorem n_ofPlace {x1 x2 x3 : Int32} (hX : uX own mm A h F v DM len rl K D t f b nl k o c gs T p0 E lo ν0 ν1 G V rm r) (hG : G 0 a c gs) (hr : rdP v (qb D) (a + 1) (qe D)) (h82 : v 82 = 0) (hx1 : x1.toInt = k) (hx2 : x2 = F (A 44) f) (hx3 : x3.toInt = op) (hop : (qc D a).toInt % 256 = op) (ho : 32 ≤ op) (ho2 : op ≤ 36) (hn : ¬ nst)
    (hv : vmk A h F)
    (hQ : ∀ (h' : xb_H) (F' : Nat → Nat → Int32) (v' : Nat → Int32) (z : uZ) (u' : Nat → Int64), uP own mm A DM len rl K D t f b nl k o T p0 E lo ν0 ν1 G V rm r a nst h F v h' F' v' (u', (rwd A h F v).2) z → plR D b nl (ct_B ν1 p0 E) ν0 op a c gs (xb_l h (A 74)) (xb_l h (A 61)) (mnV A F DM (F (A 44) f).toInt.toNat 3) z u' → Q (mH h' F' mm v')) : w_M_ofPlace mm x1 x2 x3 (mH h F mm v) Q := by
  obtain ⟨C, dD, hVa, hwk, hE1, hE2, hE3, hvk, hcc⟩ := hX.ai hG hop
  obtain ⟨iz, mz, bz, y1, y2, y3, y4, y5, y6, y7, y8, y9, hM, hM2, hM3⟩ := hX.dX
  obtain ⟨a1, ⟨l1, l2, l3, l4, l5, l6, l7, l8⟩, ⟨a3, a4, a5⟩, a6, a7, ⟨a8, a9, a10⟩, a11⟩ := id hX
  obtain ⟨-, -, -, -, -, -, -, -, -, -, -, -, -, C13, C14, -⟩ := C
  obtain ⟨D1, -⟩ := dD
  have hB := hX.1.B
  have sh : wk_sh ((qc D a).toInt % 256) = 4 := by
    rw [hop]
    exact wk_sh_l (by omega) (by omega)
  obtain ⟨q, x, k1, k2, k3, k4, k5⟩ := n_cnt hvk hVa hwk sh
  obtain ⟨-, V1, V2, -, -⟩ := gv_0 hM.2.2 hM2
  have cl : x1.toNatClampNeg = k := by rw [z_cl, hx1]; omega
  obtain ⟨g71, k71, n71, m71⟩ := hB.kx (k := 71) (kd := 102) (n := 200) (by decide) (by decide)
  obtain ⟨g72, k72, n72, m72⟩ := hB.kx (k := 72) (kd := 102) (n := 200) (by decide) (by decide)
  obtain ⟨g74, k74, n74, m74⟩ := hB.kx (k := 74) (kd := 103) (n := 18384) (by decide) (by decide)
  obtain ⟨g75, k75, n75, m75⟩ := hB.kx (k := 75) (kd := 100) (n := 18384) (by decide) (by decide)
  have o74 : 60 ≤ own (A 74) := by rw [hB.o (by decide)]; omega
  unfold w_M_ofPlace
  refine ⟨hB.2.1, m_count_k hM.rd hr hX.1.z k1 (by omega) (fun v1 r1 w1 _ v4 e4 => ?_)⟩
  subst e4
  have hX1 := hX.vg r1.vg w1
  have v82 : v1 82 = 0 := by rw [r1.vg 82 (by decide) (by decide) (by decide) (by decide) (by decide)]; exact h82
  have v15 : (v1 15).toInt = q := r1.2.1
  have z94 : v1 94 = 0 := hX1.1.W1.2.1.2.2
  refine ⟨fun h35 => ?_, fun h35 => ?_⟩
  · -- a local
    rw [z_lt, hx3] at h35
    simp only [Int32.reduceToInt] at h35
    obtain ⟨i, pa, P, xx, c1, c2, c3, c4, c5, c6, c7, c8, c9⟩ := C13 (by omega) (by omega)
    have hx : x.toInt = i := nt_x k2 c1
    have ePa : pa = tPa D t := by omega
    have eP : P = tPn D t := by omega
    subst ePa eP
    have exq : xx = q := by
      have h8 := c6.2.2
      rw [k4] at h8
      omega
    subst exq
    have hnl : nl = tPn D t + T := l3.2.1
    have hi4 : (Int64.toInt32 x).toInt = i := z_l2i hx (by omega)
    have hli := l4 i (by omega)
    have hli' : (F (A 75) (b + i)).toInt = ck_lt (qc D) lo (tPa D t) (tPn D t) i := hli
    have e72 : (F (A 72) k).toInt = nl := l2.2.2.1
    have e71 : (F (A 71) k).toInt = b := l2.2.1
    have L154 : ∀ y0 : Int32, y0.toInt = (b + i : Nat) → w_M_ofPlace_L154 Q mm x3 y0 (mH h F mm v1) := by
      intro y0 hy0
      have cy : y0.toNatClampNeg = b + i := by rw [z_cl, hy0]; omega
      have iny : ∀ A' : Nat, xb_n h A' = 18384 → vp_in y0 (xb_n h A') := fun A' hA' => by rw [z_in, hy0, hA']; omega
      unfold w_M_ofPlace_L154
      refine ⟨fun n32 => ?_, fun e32 => ?_⟩
      · have no32 : op ≠ 32 := fun e => n32 (by rw [z_eq, hx3, e]; rfl)
        have d1 := D1 (by omega)
        obtain ⟨c2', ec, hgg⟩ : ∃ c2', c = ck_lt (qc D) lo (tPa D t) (tPn D t) i :: c2' ∧ ((op = 33 → G 0 xx c2' gs) ∧ (op = 34 → G 0 xx c gs)) := by
          rcases (by omega : op = 33 ∨ op = 34) with e | e
          · obtain ⟨c2', g1, g2⟩ := c8 (by omega)
            exact ⟨c2', g1, fun _ => g2, fun e9 => by omega⟩
          · obtain ⟨c2', g1, g2⟩ := c9 (by omega)
            exact ⟨c2', g1, fun e9 => by omega, fun _ => g2⟩
        rw [ec] at hX1 d1
        simp only [List.length_cons] at d1
        refine ⟨hB.2.1, A 75, g75, k75, iny _ n75, ?_⟩
        rw [mH_o m75, cy]
        refine hX1.popE (.inr hli') (by omega) (fun v2 s2 w2 hX2 _ => ⟨A 74, g74, k74, iny _ n74, fun h11 e11 => ?_⟩)
        obtain ⟨z, hz⟩ : ∃ z, z = xb_l h (A 74) (b + nl + c2'.length) := ⟨_, rfl⟩
        have hzz : arV (F (A 75) (b + i)).toInt z = z := by
          have h8 := hX1.2.1.2.2.2.2.1.1
          have h8' : (F (A 75) (b + nl + c2'.length)).toInt = ck_lt (qc D) lo (tPa D t) (tPn D t) i := h8
          rw [hli', ← h8', hz]
          exact hv _
        rw [← hz] at e11
        have e11' : h11 = mH (xb_L h (A 74) (b + i) z) F mm v2 := e11
        subst e11'
        have hX3 := hX2.Lw (j := b + i) (z := z) o74
        have v25 : (v2 15).toInt = xx := by rw [w2 15 (by decide)]; exact v15
        have v28 : v2 82 = 0 := by rw [w2 82 (by decide)]; exact v82
        have sx : sF own A h F v (xb_L h (A 74) (b + i) z) F v2 := (r1.sF.tr s2).tr (sF.S o74 (fun _ => hzz))
        unfold w_M_ofPlace_L222
        refine ⟨fun n34 => ?_, fun e34 => ⟨A 75, g75, k75, iny _ n75, ?_⟩⟩
        · have e33 : op = 33 := by
            have : op ≠ 34 := fun e => n34 (by rw [z_eq, hx3, e]; rfl)
            omega
          exact hQ _ _ _ (.inl (_, gs, xx, _)) (xb_l h (A 61)) ⟨sx.P hB, sx.W hB, hX3, v25, hgg.1 e33, v28, fun h9 => absurd h9 hn, rfl⟩ ⟨i, xx, c1, c6, .inr (.inl ⟨e33, by omega, rfl, _, c2', ec, by rw [xl_L, hz]⟩)⟩
        · have e34' : op = 34 := by
            rw [z_eq, hx3] at e34
            simp only [Int32.reduceToInt] at e34
            omega
          have g34 := hgg.2 e34'
          have hl := hX.rm' g34
          have cn := hcc (ck_lt (qc D) lo (tPa D t) (tPn D t) i) (by rw [ec]; exact List.mem_cons_self)
          rw [ec] at g34 hl
          simp only [List.length_cons] at hl
          rw [mH_o m75, ← hz]
          refine hX3.pushE (by rw [hli']; omega) (by omega) (fun F4 v4 s4 w4 f4 hX4 _ => ?_)
          rw [hzz] at s4 hX4 ⊢
          rw [hli'] at hX4
          have hB3 := hX3.1.B
          exact hQ _ _ _ (.inl (_, gs, xx, _)) (xb_l h (A 61)) ⟨(sx.P hB).tr (s4.P hB3), (s4.W hB3).trans (sx.W hB), hX4, by rw [w4 15 (by decide)]; exact v25, g34, by rw [w4 82 (by decide)]; exact v28, fun h9 => absurd h9 hn, rfl⟩ ⟨i, xx, c1, c6, .inr (.inr (.inl ⟨e34', by omega, rfl, _, c2', ec, by rw [xl_L, xl_L, va_2 hz (by omega), hz, ec]⟩))⟩
      · have e32' : op = 32 := by
          rw [z_eq, hx3] at e32
          simp only [Int32.reduceToInt] at e32
          omega
        have g32 := c7 (by omega)
        have hl := hX.rm' g32
        simp only [List.length_cons] at hl
        obtain ⟨B1, B2, B3, B4, B5, B6, B7, B8, B9⟩ := l3.1
        have cn := (B7.2.1 _ _ _ g32).1.2.2.2.1 (ck_lt (qc D) lo (tPa D t) (tPn D t) i) List.mem_cons_self
        refine ⟨hB.2.1, A 74, g74, k74, iny _ n74, A 75, g75, k75, iny _ n75, ?_⟩
        rw [mH_o m75, cy]
        refine hX1.pushE (by rw [hli']; omega) (by omega) (fun F4 v4 s4 w4 f4 hX4 _ => ?_)
        have hvi : arV (F (A 75) (b + i)).toInt (xb_l (mH h F mm v1) (A 74) (b + i)) = xb_l h (A 74) (b + i) := hv _
        rw [hvi] at s4 hX4 ⊢
        rw [hli'] at hX4
        exact hQ _ _ _ (.inl (_, gs, xx, _)) (xb_l h (A 61)) ⟨(r1.sF.tr s4).P hB, (r1.sF.tr s4).W hB, hX4, by rw [w4 15 (by decide)]; exact v15, g32, by rw [w4 82 (by decide)]; exact v82, fun h9 => absurd h9 hn, rfl⟩ ⟨i, xx, c1, c6, .inl ⟨e32', by omega, rfl, _, by rw [xl_L]⟩⟩
    refine ⟨fun h9 => ?_, fun _ => ⟨A 72, g72, k72, ?_, fun h9 => ?_, fun _ => ?_⟩⟩
    · rw [z_lt, hi4] at h9
      simp only [Int32.reduceToInt] at h9
      omega
    · rw [z_in, hx1]
      show _ ∧ _ < ((xb_n h (A 72) : Nat) : Int)
      omega
    · rw [mH_o m72, cl, z_le, hi4, e72] at h9
      omega
    · unfold w_M_ofPlace_L108
      rw [mH_i]
      refine ⟨hB.2.1, fun h9 => absurd z94 h9, fun _ => ⟨fun _ => ?_, fun h9 => absurd h9 (by decide)⟩⟩
      unfold w_M_ofPlace_L128
      refine ⟨hB.2.1, .inl rfl, fun h3 e3 => ?_⟩
      rw [mH_I, vu_id z94] at e3
      subst e3
      refine ⟨fun h9 => absurd h9 (by decide), fun _ => ⟨hB.2.1, A 71, g71, k71, ?_, L154 _ ?_⟩⟩
      · rw [z_in, hx1]
        show _ ∧ _ < ((xb_n h (A 71) : Nat) : Int)
        omega
      · rw [mH_o m71, cl, z_add, e71, hi4]
        omega
  · -- a variable
    rw [z_lt, hx3] at h35
    simp only [Int32.reduceToInt] at h35
    obtain ⟨i, xx, c1, c2, c3, c4, c5, c6⟩ := C14 (by omega) (by omega)
    have hx : x.toInt = i := nt_x k2 c1
    have exq : xx = q := by
      have h8 := c4.2.2
      rw [k4] at h8
      omega
    subst exq
    have hi : i < iM D 3 + qt D 6 := by
      have : gn D 5 = 4 * (iM D 3 + qt D 6) := rfl
      omega
    have b6 := (hM.2.2.2.2.2.1 6 (by decide)).1
    have bi := hM.2.2.ib (κ := 3)
    have hi4 : (Int64.toInt32 x).toInt = i := z_l2i hx (by omega)
    rw [gv_5.1] at c5 c6
    obtain ⟨g31, k31, n31, m31⟩ := hB.kx (k := 31) (kd := 102) (n := 24) (by decide) (by decide)
    obtain ⟨g59, k59, n59, m59⟩ := hB.kx (k := 59) (kd := 102) (n := 4096) (by decide) (by decide)
    obtain ⟨g61, k61, n61, m61⟩ := hB.kx (k := 61) (kd := 103) (n := 4096) (by decide) (by decide)
    have o61 : 60 ≤ own (A 61) := by rw [hB.o (by decide)]; omega
    intro v11 e11
    rw [mH_i] at e11
    subst e11
    have e5 : vN v1 30 = vN v 30 := by
      unfold vN
      rw [r1.vg 30 (by decide) (by decide) (by decide) (by decide) (by decide)]
    have n58 := (hX1.1.n (k := 58) (b := 4096) (by decide)).2
    refine n_meant (κ := 3) (k := i) (i := iz) (m := mz) hX1.1 (by rw [hx2]; exact y1) (by omega) rfl (by decide) hi4 y4 (by rw [← y9]; exact hi) (fun v3 r13 g u1 u2 u3 u9 _ _ _ u4 _ => ?_)
    obtain ⟨u4, u5⟩ := u4 rfl
    rw [← y9] at u5
    have clx : x2.toNatClampNeg = iz := by rw [hx2, z_cl, y1]; omega
    have eiz : iz = (F (A 44) f).toInt.toNat := by rw [y1]; omega
    have hX3 := hX1.vg u1 u2
    refine ⟨A 31, g31, k31, ?_, ?_⟩
    · rw [hx2, z_in, y1]
      show _ ∧ _ < ((xb_n h (A 31) : Nat) : Int)
      omega
    · rw [mH_o m31, clx]
      refine m_go_k hM u2 y4 v15 (by have := hr.2.2.1; have := r1.2.2.1; omega) (by omega) (fun v5 k5 _ => ?_)
      have hX5 := hX3.vg k5.1 k5.2.2.2
      have v55 : (v5 15).toInt = xx := k5.2.2.1.1
      have v58 : v5 82 = 0 := by rw [k5.1 82 (by decide) (by decide) (by decide) (by decide) (by decide), u1 82 (by decide) (by decide) (by decide) (by decide) (by decide)]; exact v82
      have s5 : sF own A h F v h F v5 := (r1.vg.tr (u1.tr k5.1)).sF
      have cg : r13.toNatClampNeg = g := by rw [z_cl, u3]; omega
      have ing : ∀ A' : Nat, xb_n h A' = 4096 → vp_in r13 (xb_n h A') := fun A' hA' => by rw [z_in, u3, hA']; omega
      refine ⟨fun n35 => ⟨A 61, g61, A 59, g59, k59, ing _ n59, ?_⟩, fun e35 => ⟨A 61, g61, k61, ing _ n61, A 59, g59, k59, ing _ n59, ?_⟩⟩
      · have e36 : op = 36 := by
          have : op ≠ 35 := fun e => n35 (by rw [z_eq, hx3, e]; rfl)
          omega
        obtain ⟨-, c2', ec, hgg⟩ := c6 (by omega)
        have d1 := D1 (by omega)
        rw [ec] at hX5 d1
        simp only [List.length_cons] at d1
        rw [mH_o m59, cg]
        refine hX5.popE (.inr u5) (by omega) (fun v6 s6 w6 hX6 _ => ⟨k61, ing _ n61, fun h28 e28 => ?_⟩)
        obtain ⟨z, hz⟩ : ∃ z, z = xb_l h (A 74) (b + nl + c2'.length) := ⟨_, rfl⟩
        rw [← hz] at e28
        have e28' : h28 = mH (xb_L h (A 61) g z) F mm v6 := e28
        subst e28'
        obtain ⟨L1, L2, L3⟩ := pF.L61 (F := F) (v := v6) (g := g) (z := z) hB
        unfold w_M_ofPlace_L86
        exact hQ _ _ _ (.inl (_, gs, xx, _)) (va_up (xb_l h (A 61)) g z) ⟨((s5.tr s6).P hB).tr L1, by rw [L2, (s5.tr s6).W hB], hX6.Lw o61, by rw [w6 15 (by decide)]; exact v55, hgg, by rw [w6 82 (by decide)]; exact v58, fun h9 => absurd h9 hn, L3⟩ ⟨i, xx, c1, c4, .inr (.inr (.inr (.inr ⟨e36, hi, c2', ec, by rw [← eiz, ← u9, hz], rfl⟩)))⟩
      · have e35' : op = 35 := by
          rw [z_eq, hx3] at e35
          simp only [Int32.reduceToInt] at e35
          omega
        have g35 := c5 (by omega)
        have hl := hX.rm' g35
        simp only [List.length_cons] at hl
        obtain ⟨B1, B2, B3, B4, B5, B6, B7, B8, B9⟩ := l3.1
        have cn := (B7.2.1 _ _ _ g35).1.2.2.2.1 (vty D i) List.mem_cons_self
        rw [mH_o m59, cg]
        refine hX5.pushE (by rw [u5]; omega) (by omega) (fun F4 v4 s4 w4 f4 hX4 _ => ?_)
        rw [u5] at hX4 s4 ⊢
        unfold w_M_ofPlace_L86
        exact hQ _ _ _ (.inl (_, gs, xx, _)) (xb_l h (A 61)) ⟨(s5.tr s4).P hB, (s5.tr s4).W hB, hX4, by rw [w4 15 (by decide)]; exact v55, g35, by rw [w4 82 (by decide)]; exact v58, fun h9 => absurd h9 hn, rfl⟩ ⟨i, xx, c1, c4, .inr (.inr (.inr (.inl ⟨e35', hi, rfl, by rw [xl_L, ← eiz, ← u9]; rfl⟩)))⟩
end MRL
