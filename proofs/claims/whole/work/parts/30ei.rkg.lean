-- equality: checking a body, exact (the reference)
/-- a body from q on: its first fault, or the most types -/
noncomputable def bdO (D : zM) (lt : Nat → Int) (nl : Nat) (rt : Int) : Nat → Nat → cO → Except (Nat × Nat) Int
  | 0, _, _ => .error (0, 0)
  | n + 1, q, (cur, fs, g) =>
    match fs with
    | [] => .ok g
    | f :: r =>
      match ckO D lt nl rt q ((qc D q).toInt % 256).toNat cur f r g with
      | .error c => .error (c, q)
      | .ok s => bdO D lt nl rt n (qW (qc D) q) s
def lgE (cb : Nat → Int32) : Nat → Nat → Nat
  | 0, p => p
  | k + 1, p => lgE cb k (cE cb p + 1)
noncomputable def bdG (D : zM) (t gs p2 : Nat) : Nat → Nat → cO → Except (Nat × Nat) Int := bdO D (ck_lt (qc D) (lof (qc D) gs p2) (tPa D t) (tPn D t)) (tPn D t + (lgf (qc D) gs p2).length) (tRt D t)
noncomputable def bdF (D : zM) (b : Nat) : Except (Nat × Nat) Int :=
  bdG D (fty D (iM D 0 + b)) (cV (qc D) (cE (qc D) (qp D 10 b))) (cE (qc D) (cE (qc D) (qp D 10 b))) (qe D + 2) (lgE (qc D) (cV (qc D) (cE (qc D) (qp D 10 b))) (cE (qc D) (cE (qc D) (qp D 10 b)))) ([], [(0, tRt D (fty D (iM D 0 + b)), tRt D (fty D (iM D 0 + b)), [], 0)], 0)
noncomputable def ckBo (D : zM) (b : Nat) : Option (Nat × Nat) :=
  match bdF D b with
  | .ok _ => none
  | .error Fl => some Fl
section RKG
variable {own : Nat → Nat} {mm m : Nat} {A : Nat → Nat} {h : xb_H} {F F' F2 : Nat → Nat → Int32} {v v' v2 cb lo ν ν0 : Nat → Int32} {D : zM} {cur ex : List Int} {fs r : List ckF} {f : ckF} {g : Int} {t lcn q q' p op : Nat} {lv : Bool} {Qr : xb_H → Prop} {R : Except Nat cO}
theorem z_mf {E q q2 mf : Nat} (h1 : E - q + 2 ≤ mf + 1) (h2 : q < q2) (h3 : q2 < E) : E - q2 + 2 ≤ mf := by omega
theorem lgE_q : ∀ {k p q T : Nat}, lgs cb k p q T → lgE cb k p = q
  | 0, p, q, T, hl => hl.1.symm
  | k + 1, p, q, T, hl => by
    obtain ⟨p1, n, T', h1, h2, h3, h4⟩ := hl
    show lgE cb k (cE cb p + 1) = q
    rw [(rC_E h1).1]
    exact lgE_q h3
section
variable {lt : Nat → Int} {nl : Nat} {rt : Int} {f : s5} {r : List s5} {n : Nat}
theorem bdO_e {c : Nat} (hop : (qc D q).toInt % 256 = op) (h1 : ckO D lt nl rt q op cur f r g = .error c) : bdO D lt nl rt (n + 1) q (cur, f :: r, g) = .error (c, q) := by
  have e : ((qc D q).toInt % 256).toNat = op := by omega
  show (match ckO D lt nl rt q ((qc D q).toInt % 256).toNat cur f r g with | .error c => _ | .ok s => _) = _
  rw [e, h1]
theorem bdO_s {s : cO} (hop : (qc D q).toInt % 256 = op) (h1 : ckO D lt nl rt q op cur f r g = .ok s) (hq : qW (qc D) q = q') : bdO D lt nl rt (n + 1) q (cur, f :: r, g) = bdO D lt nl rt n q' s := by
  have e : ((qc D q).toInt % 256).toNat = op := by omega
  show (match ckO D lt nl rt q ((qc D q).toInt % 256).toNat cur f r g with | .error c => _ | .ok s => _) = _
  rw [e, h1, hq]
theorem ckBo_e {Fl : Nat × Nat} {b : Nat} (h1 : bdF D b = .error Fl) : ckBo D b = some Fl := by unfold ckBo; rw [h1]
theorem ckBo_o {w : Int} {b : Nat} (h1 : bdF D b = .ok w) : ckBo D b = none := by unfold ckBo; rw [h1]
end
theorem x_checkBody {x1 x2 : Int32} {b len fi : Nat} (hX : mX own mm A h F m D) (h1 : x1.toInt = m) (h2 : x2.toInt = b) (hb : b < qt D 3) (hz : v 17 = 0) (h14 : (v 14).toInt = qb D) (hcf : ∀ f, f < iM D 0 + qt D 3 → fty D f < qt D 1) (hct : ∀ t, t < qt D 1 → tRn D t ≤ 1) (hl : lenE A h len) (hfi : (F (A 8) (12 * m + 10)).toInt = fi)
    (hQ : ∀ (v' : Nat → Int32) (F' : Nat → Nat → Int32) (w : Int32), cbv v v' → cbF A F F' → (v' 17 = 0 → bok D b w.toInt) → (v' 14).toInt = qb D → xf D v' (ckBo D b) → (v' 17 = 0 → bdF D b = .ok w.toInt) → Qr (mH h (va_up F' (A 12) (va_up (F (A 12)) (fi + b) w)) mm v')) : w_M_checkBody mm x1 x2 (mH h F mm v) Qr := by
  obtain ⟨hB, ⟨a1, a2, a3, a4, a5, a6⟩, hR⟩ := id hX
  obtain ⟨hby, hbe, hE2, hS', h10⟩ := id hR
  obtain ⟨l1, l2, l3⟩ := id hl
  obtain ⟨g1, g2, -, g4⟩ := hB.g (k := 10) (kd := 102) (n := 256) (by decide)
  have g4 : xb_n h (A 10) = 256 := g4.elim (fun h => by omega) id
  have e4 : (4 * x1).toInt = (4 * m : Nat) := by
    rw [Int32.toInt_mul, z_bm, h1]
    simp only [Int32.reduceToInt]
    omega
  have bi := hR.ib (κ := 0)
  have ei : (xb_i (mH h F mm v) (A 10) (4 * x1).toNatClampNeg + x2).toInt = (iM D 0 + b : Nat) := by
    rw [mH_o (hB.nm (by decide)), z_cl, e4, Int.toNat_natCast]
    have := a6 0 (by decide)
    have b3 := (hS' 3 (by decide)).1
    exact z_ad2 this h2 (by omega) (by omega)
  have hf : iM D 0 + b < iM D 0 + qt D 3 := by omega
  obtain ⟨t, ht⟩ : ∃ t, fty D (iM D 0 + b) = t := ⟨_, rfl⟩
  have ht1 : t < qt D 1 := by rw [← ht]; exact hcf _ hf
  have q1b := (hS' 1 (by decide)).1
  obtain ⟨T1, T2, T3, T4, T5, T6⟩ := hR.tb ht1
  have V4 := (gv_0 hR ht1).2.2.2.2
  -- the body
  obtain ⟨hb0, E, hRS, hEq⟩ := (hS' 10 (by decide)).2 b (by omega)
  obtain ⟨p1, nB, p2, gg, p3, T, c1, c2, c3, c4, c5, c6⟩ := hRS
  obtain ⟨hpE, ν0, ⟨m0, hwk⟩, m1, hwkR⟩ := c6
  obtain ⟨gs, hgs⟩ : ∃ gs, gg.toInt.toNat = gs := ⟨_, rfl⟩
  have bc1 := rC_b c1
  have bc3 := rC_b c3
  rw [hgs] at c4
  obtain ⟨lgs_T, hlq⟩ := lgs_l c4
  obtain ⟨lo, hlo⟩ : ∃ lo, lo = lof (qc D) gs p2 := ⟨_, rfl⟩
  -- the end
  have L140 : ∀ (v' : Nat → Int32) (F' : Nat → Nat → Int32), cbv v v' → cbF A F F' → (v' 17 = 0 → bok D b (v' 23).toInt) → (v' 14).toInt = qb D → xf D v' (ckBo D b) → (v' 17 = 0 → bdF D b = .ok (v' 23).toInt) → w_M_checkBody_L140 Qr mm x1 x2 (mH h F' mm v') := by
    intro v' F' k1 k2 k3 k4 k5 k6
    obtain ⟨b1, b2, -, -⟩ := hB.g (k := 12) (kd := 102) (n := 0) (by decide)
    obtain ⟨d1, d2, -, d4⟩ := hB.g (k := 8) (kd := 102) (n := 768) (by decide)
    have d4 : xb_n h (A 8) = 768 := d4.elim (fun h => by omega) id
    have e12 : (12 * x1 + 10).toInt = (12 * m + 10 : Nat) := z_12 h1 rfl a1 (by decide)
    have F8 : F' (A 8) = F (A 8) := k2 _ (hB.ne (by decide) (by decide) (by decide)) (fun k hk => by
      have : ∀ k, k ∈ b7 → (∃ e ∈ aL, e.1 = k) ∧ 8 ≠ k := by decide
      exact hB.ne (by decide) (this k hk).1 (this k hk).2)
    have F12 : F' (A 12) = F (A 12) := k2 _ (hB.ne (by decide) (by decide) (by decide)) (fun k hk => by
      have : ∀ k, k ∈ b7 → (∃ e ∈ aL, e.1 = k) ∧ 12 ≠ k := by decide
      exact hB.ne (by decide) (this k hk).1 (this k hk).2)
    obtain ⟨y1, f', y2, y3, y4⟩ := a5 10 (by decide)
    rw [hfi] at y2
    obtain ⟨y5, y6⟩ := y3 (by omega)
    have e8 : (xb_i (mH h F' mm v') (A 8) (12 * x1 + 10).toNatClampNeg + x2).toInt = (fi + b : Nat) := by
      rw [mH_o (hB.nm (by decide)), z_cl, e12, Int.toNat_natCast, F8]
      exact z_ad2 hfi h2 (by omega) (by omega)
    unfold w_M_checkBody_L140
    refine ⟨hB.2.1, A 12, b1, A 8, d1, d2, ?_, b2, ?_, fun h8 e8' => ?_⟩
    · rw [z_in, e12]
      show _ ∧ _ < ((xb_n h (A 8) : Nat) : Int)
      omega
    · rw [z_in, e8]
      show _ ∧ _ < ((xb_n h (A 12) : Nat) : Int)
      omega
    · rw [z_cl, e8, Int.toNat_natCast, mH_i, mH_A (hB.nm (by decide)), F12] at e8'
      subst e8'
      exact hQ v' F' (v' 23) k1 k2 k3 k4 k5 k6
  have dead : ∀ (n : Nat) (v' : Nat → Int32) (F' : Nat → Nat → Int32), cbv v v' → cbF A F F' → v' 17 ≠ 0 → (v' 14).toInt = qb D → xf D v' (ckBo D b) → w_M_checkBody_L72 Qr (n + 1) mm x1 x2 (mH h F' mm v') := by
    intro n v' F' k1 k2 k3 k4 k5
    have L := L140 v' F' k1 k2 (fun h9 => absurd h9 k3) k4 k5 (fun h9 => absurd h9 k3)
    unfold w_M_checkBody_L72
    rw [mH_i]
    exact ⟨hB.2.1, fun _ => L, fun _ => ⟨fun _ => L, fun h9 => absurd h9 k3⟩⟩
  -- the loop
  have loop : ∀ (n q : Nat) (v1 : Nat → Int32) (F1 : Nat → Nat → Int32) (cur : List Int) (f : ckF) (r : List ckF) (st : List (Nat × Option Nat)) (ν : Nat → Int32) (g : Int) (G : ctG) (V : Nat → Prop), E - q ≤ n → cbv v v1 → cbF A F F1 → vk v1 v1 D q → zS A F1 v1 cur (f :: r) g → ct_I (gn D) (gv D) (qc D) lo t T p3 E ν0 G ν q cur f r st g → G 0 p3 [] [] → ((v1 20).toInt = (tPn D t + T : Nat) ∧ ∀ i, i < tPn D t + T → (F1 (A 19) i).toInt = lty D t gs p2 i ∧ 124 ≤ (F1 (A 19) i).toInt ∧ (F1 (A 19) i).toInt ≤ 127) → vIn (qc D) ν0 ν E q V → (V p3 ∨ q = p3) → (∀ a c gs, G 0 a c gs → V a ∨ a = q) → (∃ m, wkR (qc D) ν0 E m q) → (∀ a c gs, G 0 a c gs → (ct_D (gv D) (qc D) ν0 t ((qc D a).toInt % 256) a c gs ∧ wOK (qc D) ν0 E V a gs) ∨ (a = q ∧ c = cur ∧ gs = gl (f :: r) ∧ lvf f)) → opJ (qc D) ν0 V (f :: r) → (∃ mf, E - q + 2 ≤ mf ∧ bdF D b = bdG D t gs p2 mf q (cur, (f :: r).map sp5, g)) → w_M_checkBody_L72 Qr (n + 2) mm x1 x2 (mH h F1 mm v1) := by
    intro n
    induction n with
    | zero =>
      intro q v1 F1 cur f r st ν g G V hn i1 i2 i3 i4 i5 i6 i7 i8 i9 i10 ⟨mw, i11⟩ i12 i13 ⟨mf, i14, i15⟩
      have := i11.lt
      omega
    | succ n ih =>
      intro q v1 F1 cur f r st ν g G V hn i1 i2 i3 i4 i5 i6 i7 i8 i9 i10 ⟨mw, i11⟩ i12 i13 ⟨mf, i14, i15⟩
      have hmE : ∀ q2 : Nat, q < q2 → E - q2 ≤ n := fun q2 h9 => z_mE hn h9
      obtain ⟨⟨b1, b2, b3, b4⟩, ⟨t1, ⟨ex, t2⟩, t3, t4, t5, t6, t7⟩, b6, b7', b8, b9, b10, mk, b11⟩ := id i5
      have hqE := i11.lt
      have hres : (gv D 0 (5 * t + 4)).toInt = 64 ∨ 124 ≤ (gv D 0 (5 * t + 4)).toInt ∧ (gv D 0 (5 * t + 4)).toInt ≤ 127 := by rw [V4]; exact T4
      have hlab := b4.lab hres
      have hlen := b4.len
      have hX1 : mX own mm A h F1 m D := hX.upk (fun k hk => i2 _ (hB.ne ((by decide : ∀ k, k ∈ [3, 6, 7, 8, 9, 10, 11] → (∃ e ∈ aL, e.1 = k)) k hk) (by decide) ((by decide : ∀ k, k ∈ [3, 6, 7, 8, 9, 10, 11] → k ≠ 19) k hk)) (fun j hj => by
        have : ∀ k, k ∈ [3, 6, 7, 8, 9, 10, 11] → ∀ j, j ∈ b7 → (∃ e ∈ aL, e.1 = k) ∧ (∃ e ∈ aL, e.1 = j) ∧ k ≠ j := by decide
        obtain ⟨z1, z2, z3⟩ := this k hk j hj
        exact hB.ne z1 z2 z3))
      obtain ⟨z1, z2, z3, z4, z5, z6, z7⟩ := id i4
      obtain ⟨op, hop⟩ : ∃ op : Nat, (qc D q).toInt % 256 = op := ⟨((qc D q).toInt % 256).toNat, by omega⟩
      have eub : (ub (qc D) q).toInt = op := by unfold ub; rw [z_255]; exact hop
      obtain ⟨q', hnR, hnx⟩ : ∃ q', nR (qc D) ν0 q q' ∧ (q + 1 = E ∨ (q' < E ∧ ∃ m, wkR (qc D) ν0 E m q')) := by
        cases mw with
        | zero => exact i11.elim
        | succ mw =>
          obtain ⟨-, q', n1, n2⟩ := i11
          exact ⟨q', n1, n2.elim .inl (fun n3 => .inr ⟨n3.1, mw, n3.2⟩)⟩
      obtain ⟨hRw, hR1, hR2⟩ := id hnR
      rw [hop] at hRw hR1 hR2
      have h13 := hRw.2.2.2.2.2.2.2.2.2.2.2
      have hq' : q' ≤ qe D ∧ (wk_sh op = 1 → st.length < 200) := by
        cases mk with
        | zero => exact b11.elim
        | succ mk =>
          unfold wk at b11
          rw [hop] at b11
          obtain ⟨w0, w1, w2, w3, w4, w5⟩ := b11
          refine ⟨?_, fun h9 => (w2 h9).2.2.1⟩
          rcases hnx with e | ⟨e, -⟩
          · have h3 : wk_sh op = 3 := by
              have c0 : wk_sh op ≠ 0 := fun e9 => by have := (w1 e9).lt; omega
              have c1 : wk_sh op ≠ 1 := fun e9 => by have := (w2 e9).1; omega
              have c2 : wk_sh op ≠ 2 := fun e9 => by
                obtain ⟨o, st', -, -, -, w⟩ := w3 e9
                have := w.lt
                omega
              have c4 : ¬ 4 ≤ wk_sh op := fun e9 => by
                obtain ⟨q2, -, u, u2, -⟩ := w5 e9
                have := u.1
                omega
              omega
            have := hRw.1 (by omega)
            omega
          · omega
      have hE1 : ∀ v3, zS A F1 v3 cur (f :: r) g → v3 20 = v1 20 → bE own mm A h F1 v3 m D t T lo cur ex f r g := fun v3 hz3 e20 =>
        ⟨⟨hX1, hcf, hct, ht1⟩, ⟨hz3, t2, by omega, by omega, by rw [hlen]; omega, t1, fun y hy => hlab y hy⟩, by rw [e20]; exact i7.1, c5, fun i hi => ⟨by
          rw [(i7.2 i hi).1]
          unfold lty ck_lt
          split
          · rfl
          · have := i7.2 i hi
            unfold lty at this
            rw [if_neg (by assumption)] at this
            rw [hlo]
            unfold lof
            rw [z_ofI (by omega) (by omega)], (i7.2 i hi).2⟩, by rw [cfm.bot z5 b4, V4]⟩
      unfold w_M_checkBody_L72
      rw [mH_i]
      refine ⟨hB.2.1, fun h9 => ?_, fun _ => ⟨fun h9 => absurd i3.2.2.2 h9, fun _ h4 e4' => ?_⟩⟩
      · rw [z_le, z2] at h9
        simp only [Int32.reduceToInt, List.length_cons] at h9
        omega
      · rw [mH_I] at e4'
        subst e4'
        have P2 : rdP (va_up v1 92 (v1 15)) (qb D) q (qe D) := by
          unfold rdP
          rw [xh_up, if_neg (by decide), xh_up, if_neg (by decide)]
          exact i3.2.2.1
        have zz2 : (va_up v1 92 (v1 15)) 17 = 0 := by rw [xh_up, if_neg (by decide)]; exact i3.2.2.2
        have C2 : cbv v (va_up v1 92 (v1 15)) := i1.tr (cbv.up (by decide))
        have S2 : zS A F1 (va_up v1 92 (v1 15)) cur (f :: r) g := i4.vj (by rw [xh_up, if_neg (by decide)]) (by rw [xh_up, if_neg (by decide)]) (by rw [xh_up, if_neg (by decide)])
        refine m_next_k hX1.rd P2 zz2 (by omega) (fun v3 o3 zz3 _ v7 e7 => ?_)
        have P3 := o3.P P2
        rw [mH_i] at e7
        have e7' : v7.toInt = (q + 1 : Nat) := by rw [e7]; exact P3.1
        have C3 : cbv v v3 := C2.tr o3.vg.bv.c
        have S3 : zS A F1 v3 cur (f :: r) g := S2.vg o3.vg
        have fa1 := b4.fa b2
        refine x_checkInstruction (R := ckO D (ck_lt (qc D) lo (tPa D t) (tPn D t)) (tPn D t + T) (tRt D t) q op cur (sp5 f) (r.map sp5) g) (q := q) (q' := q') (op := op) (ν := ν) (ν0 := ν0) (lo := lo) (lcn := T) (t := t) (lv := if (op : Int) = 5 then fv f else lvb f) (ex := ex) h1 eub zz3 P3 hop hnR hq'.1 b9 (fun y hy => by have := fa1 y hy; omega) (fun o1 o2 => ?_) (hE1 v3 S3 (by rw [o3.1 20 (by decide) (by decide) (by decide), xh_up, if_neg (by decide)])) ⟨by rw [o3.e14, xh_up, if_neg (by decide)]; exact i3.2.1, by rw [o3.1 92 (by decide) (by decide) (by decide), xh_up, if_pos rfl]; exact i3.2.2.1.1, by omega, by omega, fun h9 => absurd zz3 h9⟩ rfl ?_
        · have : wk_sh op = 1 := by
            have : op = 2 ∨ op = 3 ∨ op = 4 := by omega
            rcases this with e | e | e <;> rw [e] <;> rfl
          rw [hlen]
          have := hq'.2 this
          omega
        · intro v4 F4 cur4 fs4 ν4 g4 k1 k2 kg k3 _
          have C4 : cbv v v4 := C3.tr k1.c
          have D4 : cbF A F F4 := i2.tr k2.c
          rw [mH_i]
          refine ⟨fun hn4 => ?_, fun hz4 => ?_⟩
          · unfold w_M_checkBody_L137
            obtain ⟨mf, rfl⟩ : ∃ k, mf = k + 1 := ⟨mf - 1, by omega⟩
            obtain ⟨cc, r1, r2, r3⟩ := kg.2.2.2.2 hn4
            refine dead _ v4 F4 C4 D4 hn4 kg.1 ?_
            rw [ckBo_e (Fl := (cc, q)) (by rw [i15]; unfold bdG; rw [lgs_T, ← hlo]; exact bdO_e hop r1)]
            exact ⟨hn4, r2, r3⟩
          · obtain ⟨S4, K4, N4, R4⟩ := k3 hz4
            obtain ⟨mf, rfl⟩ : ∃ k, mf = k + 1 := ⟨mf - 1, by omega⟩
            have B4 : bdF D b = bdG D t gs p2 mf q' (cur4, fs4.map sp5, g4) := by
              rw [i15]
              unfold bdG
              rw [lgs_T, ← hlo]
              exact bdO_s hop R4 (qW_E (by rw [hop]; exact hRw))
            have hX4 : mX own mm A h F4 m D := hX1.bF k2
            refine m_go_k hX4 hz4 h1 e7' (by omega) (by omega) (fun v5 k5 _ => m_written_k eub hX4.rd k5.2.2.1 k5.2.2.2 hRw hq'.1 (fun v6 o6 z6' _ => ?_))
            unfold w_M_checkBody_L137
            have C6 : cbv v v6 := C4.tr ((k5.1.tr o6.vg).bv.c)
            have S6 : zS A F4 v6 cur4 fs4 g4 := S4.vg (k5.1.tr o6.vg)
            have K6 : vk v6 v6 D q' := ⟨vg.rf, by rw [o6.1 14 (by decide) (by decide) (by decide)]; exact k5.2.1, o6.P k5.2.2.1, z6'⟩
            have o255 : (0 : Int) ≤ op ∧ (op : Int) ≤ 255 := by omega
            have hoff : ∀ j, j < q ∨ E ≤ j → ν4 j = ν j := fun j hj => ck_st.off K4 b11 hop (b9 (q + 1) (by omega)) o255 h13 j hj
            have NT := ck_st.nt o255.1 K4
            have vty' : ∀ i : Nat, i < gn D 5 / 4 → 124 ≤ (gv D 5 (4 * i + 1)).toInt ∧ (gv D 5 (4 * i + 1)).toInt ≤ 127 := fun i hi => by
              have hi' : i < iM D 3 + qt D 6 := by
                have : gn D 5 = 4 * (iM D 3 + qt D 6) := rfl
                omega
              rw [gv_5.1]
              obtain ⟨rv, -, -⟩ := hR.va hi'
              obtain ⟨u1, u2, u3⟩ := ub_ty (hby (vpo D i)) rv.1.1 rv.1.2
              unfold vty
              rw [u1]
              exact ⟨u2, u3⟩
            have htg : t < gn D 0 / 5 := by have : gn D 0 = 5 * qt D 1 := rfl; omega
            have hlo' : ∀ j, j < T → 124 ≤ (lo j).toInt ∧ (lo j).toInt ≤ 127 := fun j hj => by
              have := i7.2 (tPn D t + j) (by omega)
              unfold lty at this
              rw [if_neg (by omega), show tPn D t + j - tPn D t = j by omega] at this
              rw [hlo]
              unfold lof
              rw [z_ofI (by omega) (by omega)]
              omega
            have hfn' : ∀ i : Nat, i < gn D 2 / 2 → (gv D 2 (2 * i + 1)).toInt < (gn D 0 / 5 : Nat) := fun i hi => by
              have hi' : i < iM D 0 + qt D 3 := by
                have : gn D 2 = 2 * (iM D 0 + qt D 3) := rfl
                omega
              have h9 := hcf i hi'
              rw [gv_2 (by omega)]
              have : gn D 0 = 5 * qt D 1 := rfl
              omega
            have wq : wOK (qc D) ν0 E (fun j => V j ∨ j = q) q (gl (f :: r)) := by
              refine ⟨mk, st, b11, b4.map, fun y hy e he => ?_⟩
              obtain ⟨y1, y2, y3⟩ := wOK.of b4 i13 (fun j hj hs => (((i8 j hj).2.2.2.1) hs).2) y hy e he
              exact ⟨y1, y2, .inl y3⟩
            have hJ4 : opJ (qc D) ν0 (fun j => V j ∨ j = q) fs4 := opJ.go o255 h13 hop b4 b11 i13 K4
            have hDp : ∀ a c gs, G 0 a c gs → ct_D (gv D) (qc D) ν0 t ((qc D a).toInt % 256) a c gs ∧ wOK (qc D) ν0 E (fun j => V j ∨ j = q) a gs := fun a c gs ha => by
              rcases i12 a c gs ha with e | ⟨e1, e2, e3, e4⟩
              · exact ⟨e.1, e.2.mo (fun _ hj => .inl hj)⟩
              · rw [e1, e2, e3, hop]
                exact ⟨ck_st.dp (gv_L hR) htg hlo' vty' hfn' i5 e4 K4, wq⟩
            have hd0 := ct_stepW (q := q) hby (gv_L hR) htg hlo' vty' hfn' i5 i6 hop K4
            have hVn : ∀ q2, q < q2 → (∀ z, rW (qc D) (wk_sh ((qc D q).toInt % 256)) (q + 1) z → z < E → z = q2) → (wk_sh op = 1 → q + 2 ≤ q2) → vIn (qc D) ν0 ν4 E q2 (fun j => V j ∨ j = q) := by
              intro q2 l9 nx sh1 j hj
              rcases hj with hj | hj
              · obtain ⟨j1, j2, j3, j4, j5⟩ := i8 j hj
                refine ⟨by omega, j2, fun z y1 y2 => .inl (j3 z y1 y2), fun e => ?_, fun e => ?_⟩
                · obtain ⟨y1, y2⟩ := j4 e
                  exact ⟨by omega, by rw [hoff _ (.inl (by omega))]; exact y2⟩
                · rw [hoff _ (.inl j1)]
                  exact j5 e
              · subst hj
                refine ⟨l9, ⟨mw, i11⟩, fun z y1 y2 => .inr (nx z y1 y2), fun e => ?_, fun e => ?_⟩
                · rw [hop] at e
                  exact ⟨sh1 e, by rw [NT.1 e]; exact b9 _ (by omega)⟩
                · rw [hop] at e
                  rcases e with e | e | e
                  · rw [NT.2 (.inl e)]
                    exact b9 _ (Nat.le_refl _)
                  · rw [NT.2 (.inr e)]
                    exact b9 _ (Nat.le_refl _)
                  · rw [N4 e]
                    exact b9 _ (Nat.le_refl _)
            rcases hd0 with ⟨d1, d2, d3, d4⟩ | ⟨f', r', G', st', q'', d1, d2, d3, d3', d4, d5, d6, d7⟩
            · subst d1
              have hg' : 0 ≤ g4 ∧ g4 ≤ 12000 := by
                obtain ⟨-, -, -, -, K4', -⟩ := K4
                obtain ⟨-, -, kp, -, -⟩ := K4' (wk_sh3 d3)
                have hfb : (fb f).length ≤ cur.length := by rw [t2, List.length_append]; omega
                rcases kp with ⟨-, -, e5⟩ | ⟨-, -, e5⟩ <;> omega
              have hVf := hVn E (by omega) (fun z y1 y2 => by
                have := hRw.1 (by omega)
                rw [hop] at y1
                have := rW_f y1 hRw
                omega) (fun e => by omega)
              have hvk : vok (qc D) ν0 ν4 p3 E G (fun j => V j ∨ j = q) := by
                refine ⟨i9.elim .inl (fun e => .inr e.symm), fun j hj => ?_, fun a c gs ha => i10 a c gs ha⟩
                obtain ⟨y1, y2, y3, y4, y5⟩ := hVf j hj
                exact ⟨y2, fun z w1 w2 => (y3 z w1 w2).elim id (fun e => by omega), fun e => (y4 e).2, y5⟩
              have bF4 : bdF D b = .ok g4 := by
                obtain ⟨mf, rfl⟩ : ∃ k, mf = k + 1 := ⟨mf - 1, by omega⟩
                rw [B4]
                rfl
              have fin : w_M_checkBody_L140 Qr mm x1 x2 (mH h F4 mm v6) := L140 v6 F4 C6 D4 (fun _ => by
                rw [S6.2.2.1]
                refine ⟨p1, nB, p2, gg, p3, T, E, ⟨c1, c3, by rw [hgs]; exact c4, c5, hEq, hpE⟩, hg', ?_⟩
                rw [ht, hgs, ← hlo]
                exact ⟨ν0, ν4, G, _, d4, hvk, hDp⟩) K6.2.1 (by rw [ckBo_o bF4]; exact z6') (fun _ => by rw [S6.2.2.1]; exact bF4)
              unfold w_M_checkBody_L72
              rw [mH_i]
              refine ⟨hB.2.1, fun _ => fin, fun h9 => ?_⟩
              rw [z_le, S6.2.1] at h9
              simp at h9
            · subst d1
              have eq' : q'' = q' := by
                by_cases s0 : wk_sh op = 0 ∨ wk_sh op = 2 ∨ wk_sh op = 3
                · have := hRw.1 s0
                  have := d5 s0
                  omega
                · by_cases s1 : wk_sh op = 1
                  · have := (hRw.2.1 s1).1
                    have := d6 s1
                    omega
                  · have z1 := d7 (by omega)
                    have z2 := hR1 (by omega)
                    rw [N4 (by omega), b9 q (Nat.le_refl _)] at z1
                    omega
              subst eq'
              obtain ⟨-, -, -, -, -, -, -, mz, hwz⟩ := id d2
              have hlt := hwz.lt
              have hnx' : ∃ m, wkR (qc D) ν0 E m q'' := by
                rcases hnx with e | ⟨-, e⟩
                · omega
                · exact e
              refine ih q'' v6 F4 cur4 f' r' st' ν4 g4 G' (fun j => V j ∨ j = q) (hmE q'' d4) C6 D4 K6 S6 d2 d3 ⟨?_, fun i hi => ?_⟩ (hVn q'' d4 (fun z y1 _ => by rw [hop] at y1; exact rW_f y1 hRw) (fun e => by have := d6 e; omega)) ?_ (fun a c gs ha => ?_) hnx' (fun a c gs ha => ?_) hJ4 ⟨mf, z_mf i14 d4 hlt, B4⟩
              · rw [o6.1 20 (by decide) (by decide) (by decide), k5.1 20 (by decide) (by decide) (by decide) (by decide) (by decide), k1 20 (by decide) (by decide) (by decide) (by decide) (by decide) (by decide) (by decide) (by decide), o3.1 20 (by decide) (by decide) (by decide), xh_up, if_neg (by decide)]
                exact i7.1
              · have e19 : F4 (A 19) = F1 (A 19) := k2 _ (fun k hk => by
                  have : ∀ k, k ∈ b7 → (∃ e ∈ aL, e.1 = k) ∧ 19 ≠ k := by decide
                  exact hB.ne (by decide) (this k hk).1 (this k hk).2)
                rw [e19]
                exact i7.2 i hi
              · exact .inl (i9.elim .inl (fun e => .inr e.symm))
              · rcases d3' a c gs ha with e | e | e
                · exact .inl (i10 a c gs e)
                · exact .inr e
                · exact .inl (.inr e.1)
              · rcases d3' a c gs ha with e | e | e
                · exact .inl (hDp a c gs e)
                · obtain ⟨-, -, -, c7, -⟩ := id d2
                  rcases (c7 a c gs ha).2 with h9 | h9
                  · exact .inr h9
                  · omega
                · exact .inl ⟨ct_D_11 (by rw [e.1, e.2.1]; rfl), by rw [e.1, e.2.2]; exact wq⟩
  unfold w_M_checkBody
  refine ⟨hB.2.1, A 10, g1, g2, ?_, ?_⟩
  · rw [z_in, e4]
    show _ ∧ _ < ((xb_n h (A 10) : Nat) : Int)
    omega
  refine x_typeOf hX hz h1 ei hf (by rw [ht]; omega) (fun v1 r1 k1 _ y1 e1 _ => ?_)
  rw [ht] at e1
  refine x_resultOf hX y1 h1 e1 ht1 (fun v2 r2 k2 _ y2 e2 _ => m_placeOf hX h1 (s := 10) rfl (by decide) h2 (by omega) (fun r3 e3 _ => m_go_k hX y2 h1 e3 hb0 (by omega) (fun v4 k4 _ => m_count_k hX.rd k4.2.2.1 k4.2.2.2 c1 (by omega) (fun v5 o5 z5 _ => ?_))))
  refine m_readLocals hX h1 e1 ht1 z5 (o5.P k4.2.2.1) c3 hgs c4 (by omega) c5 (fun v6 w g6 k6 e20 hw _ h7 e7 h8 e8 h9 e9 => ?_)
  rw [mH_I] at e7
  subst e7
  rw [mH_I] at e8
  subst e8
  rw [mH_I] at e9
  subst e9
  have C6 : cbv v v6 := (((k1.tr k2).tr k4.1).tr o5.vg).bv.c.tr g6.c
  have D6 : cbF A F (va_up F (A 19) w) := fun a ha _ => by rw [xh_up, if_neg ha]
  refine m_begin (o := -1) (lv := true) (cur := []) (fs := []) (g := 0) hB ⟨?_, ?_, ?_, trivial, trivial, by decide, by decide⟩ (by simp) (by simp) (fun v7 F7 k7 f7 s7 _ => ⟨E - p3 + 2, ?_⟩)
  · rw [xh_up, if_neg (by decide), xh_up, if_neg (by decide), xh_up, if_pos rfl]; rfl
  · rw [xh_up, if_pos rfl]; rfl
  · rw [xh_up, if_neg (by decide), xh_up, if_pos rfl]; rfl
  rw [e2] at s7
  have e7v : ∀ j, j ≠ 22 → j ≠ 23 → j ≠ 29 → v7 j = v6 j := fun j j1 j2 j3 => by rw [k7 j j3, xh_up, if_neg j3, xh_up, if_neg j2, xh_up, if_neg j1]
  have e19 : F7 (A 19) = w := by
    rw [f7 _ (fun k hk => by
      have : ∀ k, k ∈ b7 → (∃ e ∈ aL, e.1 = k) ∧ 19 ≠ k := by decide
      exact hB.ne (by decide) (this k hk).1 (this k hk).2), xh_up, if_pos rfl]
  refine loop (E - p3) p3 v7 F7 [] (0, -1, tRt D t, tRt D t, [], 0, true) [] [] ν0 0 (fun k a c gs => k = 0 ∧ a = p3 ∧ c = [] ∧ gs = []) (fun _ => False) (Nat.le_refl _) (C6.tr (fun j hj => ?_)) (D6.tr f7.c) ⟨vg.rf, ?_, ?_, ?_⟩ s7 ?_ ⟨rfl, rfl, rfl, rfl⟩ ⟨by rw [e7v 20 (by decide) (by decide) (by decide)]; exact e20, by rw [e19]; exact hw⟩ (fun j hj => hj.elim) (.inr rfl) (fun a c gs ha => .inr ha.2.1) ⟨m1, hwkR⟩ (fun a c gs ha => .inr ⟨ha.2.1, ha.2.2.1, ha.2.2.2, rfl, rfl⟩) (fun y hy => by rw [List.mem_singleton] at hy; subst hy; exact .inl rfl) ⟨qe D + 2, by omega, ?_⟩
  · have : ∀ k, k ∈ cbl → j ≠ k := fun k hk e => hj (e ▸ hk)
    exact e7v j (this 22 (by decide)) (this 23 (by decide)) (this 29 (by decide))
  · rw [e7v 14 (by decide) (by decide) (by decide)]; exact k6.2.1
  · unfold rdP
    rw [e7v 15 (by decide) (by decide) (by decide), e7v 16 (by decide) (by decide) (by decide)]
    exact k6.2.2.1
  · rw [e7v 17 (by decide) (by decide) (by decide)]; exact k6.2.2.2
  · refine ⟨⟨Nat.le_refl _, trivial, by simp, rfl, rfl, rfl, V4.symm, V4.symm, rfl, rfl⟩, ⟨fun y hy => (by cases hy), ⟨[], rfl⟩, fun _ y hy => (by cases hy), by simp, Int.le_refl _, by simp, by simp⟩, fun _ => ⟨rfl, rfl, rfl, rfl⟩, ?_, ⟨fun o c gs h9 => (by cases h9.1), fun o c gs h9 => (by cases h9.1), fun o c gs h9 => (by cases h9.1)⟩, fun j _ => rfl, fun x hx => (by cases hx), m0, hwk⟩
    rintro a c gs ⟨-, e1, e2, e3⟩
    subst e1 e2 e3
    exact ⟨⟨Nat.le_refl _, hpE, by simp, fun y hy => (by cases hy), m0, [], hwk, trivial, rfl⟩, .inl ⟨rfl, rfl, rfl, rfl, rfl⟩⟩
  · unfold bdF
    rw [ht, (rC_E c1).1, (rC_E c3).1, (rC_E c3).2, hgs, lgE_q c4]
    rfl
end RKG
