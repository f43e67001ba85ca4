-- the reference: a run, instructions of flow
section MRF
variable {own : Nat → Nat} {mm m i ip k f t b nl o top q a o1 : Nat} {A : Nat → Nat} {h h' h2 : xb_H} {F F' F2 : Nat → Nat → Int32} {v v' v2 : Nat → Int32} {D : zM} {DM : Nat → zM} {len rl K : Nat} {Q : xb_H → Prop} {Ql : Int64 → xb_H → Prop} {φ φ' : Nat → Nat → Int32} {ν ν' : Nat → Int32} {c c' ex pre : List Int} {gs g1 : List gF} {T p0 E : Nat} {lo ν0 ν1 cb : Nat → Int32} {G : ctG} {V : Nat → Prop} {rm y res : Int} {r : List cX} {nst : Prop} {x : Nat × Option Nat}
/-- an instruction with nothing opened by it: the next one -/
theorem wOK.nx (hV : vok cb ν0 ν1 p0 E G V) (hp : V a) (hw : wOK cb ν0 E V a gs) (hs : wk_sh ((cb a).toInt % 256) = 0 ∨ 4 ≤ wk_sh ((cb a).toInt % 256)) : ∃ q, nR cb ν0 a q ∧ a < q ∧ q < E ∧ V q ∧ wOK cb ν0 E V q gs := by
  obtain ⟨m, st, w1, w2, w3⟩ := hw
  cases m with
  | zero => exact w1.elim
  | succ m =>
    obtain ⟨q, st', s1, s2, s3, s4, s5, -, -, -, t4⟩ := hV.nx hp w1 (fun e => by omega)
    have e := t4 hs
    subst e
    exact ⟨q, s1, s2, s3, s4, m, st', s5, w2, w3⟩
/-- what is known of the instruction at a -/
theorem uX.ai {op : Nat} (hX : uX own mm A h F v DM len rl K D t f b nl k o c gs T p0 E lo ν0 ν1 G V rm r) (hG : G 0 a c gs) (hop : (qc D a).toInt % 256 = op) : ct_LC (gn D) (gv D) (qc D) lo t T ν0 G (ct_B ν1 p0 E) op a c gs ∧ ct_D (gv D) (qc D) ν0 t op a c gs ∧ V a ∧ wOK (qc D) ν0 E V a gs ∧ a < E ∧ E ≤ qe D ∧ wk_sh op < 13 ∧ vok (qc D) ν0 ν1 p0 E G V ∧ cnc c := by
  obtain ⟨a1, ⟨l1, l2, l3, l4, l5, l6, l7, l8⟩, -⟩ := hX
  obtain ⟨B1, B2, B3, B4, B5, B6, B7, B8, B9⟩ := l3.1
  obtain ⟨⟨c1, c2, c3, c4, -⟩, c6⟩ := B7.2.1 a c gs hG
  obtain ⟨d1, d2⟩ := B9 a c gs hG
  have hV := B8.2.2 a c gs hG
  rw [hop] at c6 d1
  refine ⟨c6, d1, hV, d2, c2, B2, ?_, B8, c4⟩
  obtain ⟨⟨mw, w1⟩, -⟩ := B8.2.1 a hV
  cases mw with
  | zero => exact w1.elim
  | succ mw =>
    obtain ⟨-, q', ⟨n1, -⟩, -⟩ := w1
    rw [hop] at n1
    exact n1.2.2.2.2.2.2.2.2.2.2.2
/-- there is room for what a place may hold -/
theorem uX.rm' (hX : uX own mm A h F v DM len rl K D t f b nl k o c gs T p0 E lo ν0 ν1 G V rm r) (hG : G 0 a c' g1) : b + nl + c'.length ≤ 16384 := by
  obtain ⟨a1, ⟨l1, l2, l3, l4, l5, l6, l7, l8⟩, -⟩ := hX
  obtain ⟨B1, B2, B3, B4, B5, B6, B7, B8, B9⟩ := l3.1
  obtain ⟨⟨c1, c2, c3, c4, -⟩, c6⟩ := B7.2.1 a c' g1 hG
  have := l3.2.2
  omega
theorem nt_x {w : Int32} {x : Int64} (h1 : w.toBitVec.toNat = x.toBitVec.toNat) (h2 : w.toInt = i) : x.toInt = i := by
  have e1 := z_nat w
  have e2 := Z_nat x
  have e3 := Z_rg x
  have e4 := z_rg w
  omega
/-- something is opened by the latest call -/
theorem uX.opn {x1 x2 : Int32} (hX : uX own mm A h F v DM len rl K D t f b nl k o c gs T p0 E lo ν0 ν1 G V rm r) (hl : gs.length < 200) (hV : V a) (hs : wk_sh ((qc D a).toInt % 256) = 1) (hk : x1.toInt = 3 ↔ (qc D a).toInt = 3) (hst : (qc D a).toInt = 3 → (v 15).toInt = (a + 2 : Nat)) (hlb : x2.toInt = if (qc D a).toInt = 3 then 64 else (qc D (a + 1)).toInt) (hQ : ∀ (F' : Nat → Nat → Int32) (v' : Nat → Int32), sF own A h F v h F' v' → (∀ j, j ≠ 81 → v' j = v j) → uX own mm A h F' v' DM len rl K D t f b nl k o c ((a, c) :: gs) T p0 E lo ν0 ν1 G V rm r → Q (mH h F' mm v')) : w_M_open mm x1 x2 (mH h F mm v) Q := by
  obtain ⟨a1, ⟨l1, l2, l3, l4, l5, l6, l7, l8⟩, ⟨a3, a4, a5⟩, a6, a7, ⟨a8, a9, a10⟩, a11⟩ := id hX
  have hB := a1.B
  have ob := a6.ob
  refine n_open hB a10 (by omega) (fun F' f1 f77 f78 f79 f80 => ?_)
  have vo : ∀ j, j ≠ 81 → va_up v 81 (v 81 + 1) j = v j := fun j hj => by rw [xh_up, if_neg hj]
  have ak : ∀ k, (∃ e ∈ aL, e.1 = k) → k ∉ [77, 78, 79, 80] → F' (A k) = F (A k) := fun k hk hn => f1 _ (hB.nin hk (by decide) hn)
  have lw : ∀ k, k ∈ [77, 78, 79, 80] → ∀ j, j < o + 1 + gs.length → F' (A k) j = F (A k) j := fun k hk j hj => by
    simp only [List.mem_cons, List.not_mem_nil, or_false] at hk
    rcases hk with e | e | e | e <;> subst e
    · rw [f77, xh_up, if_neg (by omega)]
    · rw [f78, xh_up, if_neg (by omega)]
    · rw [f79, xh_up, if_neg (by omega)]
    · rw [f80, xh_up, if_neg (by omega)]
  have s1 : sF own A h F v h F' (va_up v 81 (v 81 + 1)) := by
    refine ⟨⟨⟨rfl, rfl, rfl, fun a' ha => ⟨rfl, f1 a' (fun k hk e => ?_)⟩⟩, fun _ _ => rfl, fun h9 j => by rw [ak 75 (by decide) (by decide)]; exact h9 j⟩, fun a' ha => f1 a' (fun k hk => ha k ((by decide : ∀ k, k ∈ [77, 78, 79, 80] → k ∈ rnA) k hk)), fun j hj => vo j (fun e => hj (e ▸ by decide))⟩
    have h9 := hB.o ((by decide : ∀ k, k ∈ [77, 78, 79, 80] → ∃ e ∈ aL, e.1 = k) k hk)
    rw [← e] at h9
    omega
  have e43 : vN (va_up v 81 (v 81 + 1)) 43 = vN v 43 := by
    unfold vN
    rw [vo 43 (by decide)]
  obtain ⟨em, et, -, er⟩ := fMo.st (DM := DM) (φ := fun k => F (A k)) (φ' := fun k => F' (A k)) (ak 31 (by decide) (by decide)) (ak 44 (by decide) (by decide)) (ak 45 (by decide) (by decide))
  refine hQ F' _ s1 vo ⟨a1.sF s1 (by rw [vo 17 (by decide)]; exact a1.z) (by rw [vo 94 (by decide)]; exact a1.W1.2.1.2.2), ⟨l1, ?_, l3, fun i hi => ?_, ?_, ?_, ⟨?_, ?_⟩, by simp only [List.length_cons]; omega⟩, ⟨by rw [em]; exact a3, by rw [et]; exact a4, by rw [e43]; exact a5⟩, ?_, a7, ⟨by rw [vo 68 (by decide)]; exact a8, by rw [vo 76 (by decide)]; exact a9, ?_⟩, a11⟩
  · show (F' (A 69) k).toInt = f ∧ (F' (A 71) k).toInt = b ∧ (F' (A 72) k).toInt = nl ∧ (F' (A 73) k).toInt = o
    rw [ak 69 (by decide) (by decide), ak 71 (by decide) (by decide), ak 72 (by decide) (by decide), ak 73 (by decide) (by decide)]
    exact l2
  · show (F' (A 75) (b + i)).toInt = _
    rw [ak 75 (by decide) (by decide)]
    exact l4 i hi
  · show tyS (F' (A 75)) (b + nl) c
    rw [ak 75 (by decide) (by decide)]
    exact l5
  · show (F' (A 77) o).toInt = 0 ∧ (F' (A 79) o).toInt = tRt D t ∧ (F' (A 80) o).toInt = (b + nl : Nat)
    rw [lw 77 (by decide) o (by omega), lw 79 (by decide) o (by omega), lw 80 (by decide) o (by omega)]
    exact l6
  · show V a ∧ wk_sh ((qc D a).toInt % 256) = 1 ∧ ((F' (A 77) (o + 1 + gs.length)).toInt = 3 ↔ (qc D a).toInt = 3) ∧ ((qc D a).toInt = 3 → (F' (A 78) (o + 1 + gs.length)).toInt = (a + 2 : Nat)) ∧ (F' (A 79) (o + 1 + gs.length)).toInt = (if (qc D a).toInt = 3 then 64 else (qc D (a + 1)).toInt) ∧ (F' (A 80) (o + 1 + gs.length)).toInt = (b + nl + c.length : Nat)
    rw [f77, f78, f79, f80, xh_up, if_pos rfl, xh_up, if_pos rfl, xh_up, if_pos rfl, xh_up, if_pos rfl]
    exact ⟨hV, hs, hk, hst, hlb, a9⟩
  · exact l7.fr (φ' := fun k => F' (A k)) lw
  · rw [er]
    refine a6.fr (φ' := fun k => F' (A k)) (ak 31 (by decide) (by decide)) (ak 44 (by decide) (by decide)) (ak 45 (by decide) (by decide)) e43 (fun k hk j _ => ?_) (fun j hj => ?_) (fun k hk j hj => lw k hk j (by omega))
    · have q : ∀ k, k ∈ [69, 70, 71, 72, 73] → (∃ e ∈ aL, e.1 = k) ∧ k ∉ [77, 78, 79, 80] := by decide
      show F' (A k) j = F (A k) j
      rw [ak k (q k hk).1 (q k hk).2]
    · show F' (A 75) j = F (A 75) j
      rw [ak 75 (by decide) (by decide)]
  · rw [xh_up, if_pos rfl]
    have h9 := z_inc a10 (by omega)
    simp only [List.length_cons]
    exact h9
/-- a trap -/
theorem uX.trap {w : Int32} (hX : uX own mm A h F v DM len rl K D t f b nl k o c gs T p0 E lo ν0 ν1 G V rm r) (hw : w ≠ 0) : uP own mm A DM len rl K D t f b nl k o T p0 E lo ν0 ν1 G V rm r a nst h F v h F (va_up v 82 w) (rwd A h F v) (.inr (.inr w)) := by
  have hX2 := hX.vv (v' := va_up v 82 w) (fun j hj => by rw [xh_up, if_neg (fun (e : j = 82) => hj (by rw [e]; decide))]) (by rw [xh_up, if_neg (by decide)]; exact hX.1.z)
  obtain ⟨a1, ⟨l1, l2, -⟩, ⟨a3, a4, a5⟩, a6, a7, ⟨a8, a9, a10⟩, a11⟩ := hX2
  exact ⟨(sF.v1 (A := A) (k := 82) (by decide)).P a1.B, (sF.v1 (own := own) (A := A) (k := 82) (by decide)).W a1.B, a1, by rw [xh_up, if_pos rfl], hw, l1, a8, l2.1, a5⟩
theorem uP.tr {w : rWd} {z : uZ} (hB : mB own mm A h) (hs : sF own A h F v h' F' v') (hu : uP own mm A DM len rl K D t f b nl k o T p0 E lo ν0 ν1 G V rm r a nst h' F' v' h2 F2 v2 w z) : uP own mm A DM len rl K D t f b nl k o T p0 E lo ν0 ν1 G V rm r a nst h F v h2 F2 v2 w z := ⟨(hs.P hB).tr hu.1, hu.2⟩
theorem ro.sF {p p' e : Nat} (h1 : ro v v' p p' e) : sF own A h F v h F v' := h1.vg.sF
theorem n_byTable (hX : uX own mm A h F v DM len rl K D t f b nl k o c gs T p0 E lo ν0 ν1 G V rm r) (hG : G 0 a c gs) (hr : rdP v (qb D) (a + 1) (qe D)) (h82 : v 82 = 0) (hop : (qc D a).toInt % 256 = 14) (hn : ¬ nst)
    (hQ : ∀ (h' : xb_H) (F' : Nat → Nat → Int32) (v' : Nat → Int32) (z : uZ), uP own mm A DM len rl K D t f b nl k o T p0 E lo ν0 ν1 G V rm r a nst h F v h' F' v' (rwd A h F v) z → (∃ c2, c = 127 :: c2 ∧ ∃ L kk i : Nat, (ν0 (a + 1)).toInt = L ∧ (kk : Int) = min (xb_l h (A 74) (b + nl + c2.length) &&& 4294967295).toInt L ∧ (ν0 (a + 2 + kk)).toInt = i ∧ brR D t b nl (ct_B ν1 p0 E) c2 gs (xb_l h (A 74)) i z) → Q (mH h' F' mm v')) : w_M_byTable mm (mH h F mm v) Q := by
  obtain ⟨iz, mz, bz, y1, y2, y3, y4, y5, y6, y7, y8, y9, hM, hM2, hM3⟩ := hX.dX
  obtain ⟨C, dD, hVa, hwk, hE1, hE2, hE3, hvk, hcc⟩ := hX.ai (op := 14) hG hop
  have hB := hX.1.B
  have V4 := (gv_0 hM.2.2 hM2).2.2.2.2
  have s5 : wk_sh ((qc D a).toInt % 256) = 5 := by rw [hop]; decide
  obtain ⟨q, hnr, q1, q2, q3, q4⟩ := wOK.nx hvk hVa hwk (by omega)
  obtain ⟨n1, n2, n3⟩ := hnr
  rw [s5] at n1 n3
  obtain ⟨z1, z2, z3, z4, z5, z6⟩ := n1.2.2.2.1 rfl
  obtain ⟨p1, x0, k1, k2, k3⟩ := n3 (by omega)
  obtain ⟨z7, z8⟩ := z6
  have ek : z1 = p1 ∧ z2 = x0 := by
    rw [k1] at z5
    simp only [Option.some.injEq, Prod.mk.injEq] at z5
    exact ⟨z5.1.symm, z5.2.symm⟩
  obtain ⟨e1, e2⟩ := ek
  subst e1 e2
  have k3 := k3 rfl
  obtain ⟨-, -, -, -, -, -, -, C14, -⟩ := C
  obtain ⟨L, c2, g1, -, g3, g4⟩ := C14 rfl
  have hL : z2.toInt = L := nt_x k2 g1
  have hLn : z2.toInt.toNat = L := by omega
  rw [hLn] at k3 z7
  have b1 := rC_b k1
  have b2 := cks_b z7
  have b3 := rC_b z8
  subst g3
  obtain ⟨-, -, -, -, -, D14, -⟩ := dD
  have hd0 : gbl gs + 1 ≤ (127 :: c2 : List Int).length := by
    obtain ⟨i, w, j1, -⟩ := g4 0 (Nat.zero_le L)
    have := D14 rfl L 0 i g1 (Nat.zero_le L) j1
    omega
  simp only [List.length_cons] at hd0
  unfold w_M_byTable
  refine ⟨hB.2.1, m_count_k hM.rd hr hX.1.z k1 (by omega) (fun v1 r1 w1 _ v4 e4 => ?_)⟩
  rw [mH_i] at e4
  have hX1 := hX.vg r1.vg w1
  refine hX1.popE (.inr rfl) (by omega) (fun v5 s5' w5 hX5 _ v7 e7 h8 e8 => ?_)
  rw [e4, mH_I, vu_id (w5 15 (by decide))] at e8
  subst e8
  have r5 : rdP v5 (qb D) z1 (qe D) := by
    have := r1.P hr
    exact ⟨by rw [w5 15 (by decide)]; exact this.1, by rw [w5 16 (by decide)]; exact this.2.1, this.2.2⟩
  -- the loop
  have loop : ∀ (n j pj : Nat) (x6 x8 : Int64) (v6 : Nat → Int32), n + j = L + 1 → x8.toInt = j → cks (qc D) j z1 = some pj → (j = L + 1 → pj = q) → rdP v6 (qb D) pj (qe D) → vg v5 v6 → v6 17 = 0 → (0 < j → ∃ j' i' : Nat, j' ≤ L ∧ (j' : Int) = min v7.toInt ((j : Int) - 1) ∧ (ν0 (a + 2 + j')).toInt = i' ∧ x6.toInt = i') → w_M_byTable_L33 Q (n + 1) mm z2 v7 x6 x8 (mH h F mm v6) := by
    intro n
    induction n with
    | zero =>
      intro j pj x6 x8 v6 hn1 h8 hc hq6 r6 g6 w6 hx6
      unfold w_M_byTable_L33
      refine ⟨fun _ => ⟨hB.2.1, ?_⟩, fun h9 => ?_⟩
      · obtain ⟨j', i', m1, m0, m2, m3⟩ := hx6 (by omega)
        obtain ⟨i2, w, j1, j2, j3⟩ := g4 j' m1
        have ei : i2 = i' := by omega
        subst ei
        have hd := D14 rfl L j' i2 g1 m1 j1
        rw [V4] at hd j3
        have hX6 := hX5.vg g6 w6
        have ej : j = L + 1 := by omega
        have eq6 := hq6 ej
        subst eq6
        simp only [List.length_cons] at hd
        refine hX6.branch (a := a) (nst := nst) (q := pj) (by rw [g6 82 (by decide) (by decide) (by decide) (by decide) (by decide), w5 82 (by decide), r1.vg 82 (by decide) (by decide) (by decide) (by decide) (by decide)]; exact h82) m3 j3 (by omega) (fun _ => ⟨r6, q3, q4⟩) hn (fun h' F' v' z hu hz _ => hQ h' F' v' z ?_ ⟨c2, rfl, L, j', i2, g1, by rw [m0, e7, ej]; congr 1; omega, j1, hz⟩)
        have sx := (r1.sF.tr s5').tr g6.sF
        rw [← sx.W hB]
        exact uP.tr hB sx hu
      · exfalso
        apply h9
        rw [Z_lt, hL, h8]
        omega
    | succ n ih =>
      intro j pj x6 x8 v6 hn1 h8 hc hq6 r6 g6 w6 hx6
      unfold w_M_byTable_L33
      refine ⟨fun h9 => ?_, fun _ => ⟨hB.2.1, ?_⟩⟩
      · rw [Z_lt, hL, h8] at h9
        omega
      · obtain ⟨pk, q2', y, u1, u2, u3⟩ := k3 j (by omega)
        have epk : pk = pj := by
          rw [hc] at u1
          simp only [Option.some.injEq] at u1
          exact u1.symm
        subst epk
        have hcn := cks_nx hc u2
        have hq2 : q2' ≤ q := by
          rcases Nat.lt_or_ge j L with h9 | h9
          · obtain ⟨pk2, c1, c2'⟩ := cks_pre z7 (k := j + 1) (by omega)
            have := cks_b c2'
            rw [hcn] at c1
            simp only [Option.some.injEq] at c1
            omega
          · have ej : j = L := by omega
            rw [ej, z7] at hc
            simp only [Option.some.injEq] at hc
            rw [← hc, z8] at u2
            simp only [Option.some.injEq, Prod.mk.injEq] at u2
            omega
        have b9 := rC_b u2
        have e8 : (x8 + 1).toInt = (j + 1 : Nat) := by
          rw [Z_add, h8]
          have : (1 : Int64).toInt = 1 := rfl
          omega
        obtain ⟨i2, w, j1, j2, j3⟩ := g4 j (by omega)
        have hy : y.toInt = i2 := nt_x u3 j1
        refine m_count_k hM.rd r6 w6 u2 (by omega) (fun v8 r8 w8 _ => ⟨fun hlt9 => ?_, fun hnl9 => ?_⟩)
        · unfold w_M_byTable_L61
          intro v1' e1'
          subst e1'
          refine ih (j + 1) q2' x6 (x8 + 1) v8 (by omega) e8 hcn (fun e9 => ?_) (r8.P r6) (g6.tr r8.vg) w8 (fun _ => ?_)
          · have ej : j = L := by omega
            rw [ej, z7] at hc
            simp only [Option.some.injEq] at hc
            rw [← hc, z8] at u2
            simp only [Option.some.injEq, Prod.mk.injEq] at u2
            omega
          · rcases Nat.eq_zero_or_pos j with h9 | h9
            · exfalso
              rw [Z_lt, h8, h9, e7] at hlt9
              have := (Z_low_rg (xb_l h (A 74) (b + nl + c2.length))).1
              omega
            · obtain ⟨j', i', m1, m0, m2, m3⟩ := hx6 h9
              rw [Z_lt, h8] at hlt9
              exact ⟨j', i', m1, by omega, m2, m3⟩
        · rw [Z_lt, h8] at hnl9
          unfold w_M_byTable_L61
          intro v1' e1'
          subst e1'
          refine ih (j + 1) q2' y (x8 + 1) v8 (by omega) e8 hcn (fun e9 => ?_) (r8.P r6) (g6.tr r8.vg) w8 (fun _ => ⟨j, i2, by omega, by omega, j1, hy⟩)
          have ej : j = L := by omega
          rw [ej, z7] at hc
          simp only [Option.some.injEq] at hc
          rw [← hc, z8] at u2
          simp only [Option.some.injEq, Prod.mk.injEq] at u2
          omega
  exact ⟨L + 2, loop (L + 1) 0 z1 0 0 v5 rfl rfl rfl (fun e => by omega) r5 vg.rf (by rw [w5 17 (by decide)]; exact w1) (fun e => by omega)⟩
end MRF
