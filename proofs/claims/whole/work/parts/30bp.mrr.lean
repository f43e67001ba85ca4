-- the reference: a run calls, all of it
/-- a function is called: the world, the outcome -/
def caR (A : Nat → Nat) (F : Nat → Nat → Int32) (DM : Nat → zM) (cs : List cX) (base f : Nat) (ω : Nat → Int64) (w w' : rWd) (z : cZ) : Prop :=
  (f < 8192 ∧ ∃ iz mz bz : Nat, (F (A 44) f).toInt = iz ∧ (F (A 31) iz).toInt = mz ∧ (F (A 45) f).toInt = bz ∧ ∃ (p1 : Nat) (nB : Int64) (p2 : Nat) (gg : Int64) (p3 T : Nat), rC (qc (DM mz)) (qp (DM mz) 10 bz) = some (p1, nB) ∧ rC (qc (DM mz)) p1 = some (p2, gg) ∧ lgs (qc (DM mz)) gg.toInt.toNat p2 p3 T ∧ ∃ (f8 : Nat) (rmm : Int), (F (A 8) (12 * mz + 10)).toInt = f8 ∧ (F (A 12) (f8 + bz)).toInt = rmm ∧ w' = w ∧
    (((cs.length = 200 ∨ 16384 < (base + (tPn (DM mz) (fty (DM mz) (iM (DM mz) 0 + bz)) + T) : Int) + rmm) ∧ z = .inr 9) ∨
     (cs.length < 200 ∧ (base + (tPn (DM mz) (fty (DM mz) (iM (DM mz) 0 + bz)) + T) : Int) + rmm ≤ 16384 ∧ z = .inl ((f, base, tPn (DM mz) (fty (DM mz) (iM (DM mz) 0 + bz)) + T, p3, [], []) :: cs, 0, zrW ω (base + tPn (DM mz) (fty (DM mz) (iM (DM mz) 0 + bz))) (base + (tPn (DM mz) (fty (DM mz) (iM (DM mz) 0 + bz)) + T)))))) ∨
  (100000 ≤ f ∧ ((w.2.2.2.2.2.1.toInt ≠ 4096 ∧ z = .inl (cs, 0, ω) ∧ w.2.2.2.2.2.1.toInt = w.2.2.2.2.2.1.toInt.toNat ∧ w' = (w.1, w.2.1, w.2.2.1, w.2.2.2.1, w.2.2.2.2.1, w.2.2.2.2.2.1 + 1, va_up w.2.2.2.2.2.2 w.2.2.2.2.2.1.toInt.toNat (ω base))) ∨ (w.2.2.2.2.2.1.toInt = 4096 ∧ z = .inr 10 ∧ w' = w)))
section MRR
variable {own : Nat → Nat} {mm m i ip k f t b nl o top q a o1 op base : Nat} {A : Nat → Nat} {h h' h2 : xb_H} {F F' F2 : Nat → Nat → Int32} {v v' v2 : Nat → Int32} {D : zM} {DM : Nat → zM} {len rl K : Nat} {Q : xb_H → Prop} {Ql : Int64 → xb_H → Prop} {φ φ' : Nat → Nat → Int32} {ν ν' : Nat → Int32} {c c' ex pre : List Int} {gs g1 : List gF} {T p0 E : Nat} {lo ν0 ν1 cb : Nat → Int32} {G : ctG} {V : Nat → Prop} {rm y res : Int} {r cs : List cX} {nst : Prop} {x : Nat × Option Nat}
theorem pC.tr {w : rWd} {z : cZ} (hs : pF own mm A h F v h' F' v') (h68 : v' 68 = v 68) (h69 : F' (A 69) = F (A 69)) (hu : pC own mm A DM len rl K h' F' v' h2 F2 v2 w z) : pC own mm A DM len rl K h F v h2 F2 v2 w z := by
  obtain ⟨u1, u2, u3⟩ := hu
  refine ⟨hs.tr u1, u2, ?_⟩
  cases z with
  | inl z => exact u3
  | inr κ => exact ⟨u3.1, u3.2.1, u3.2.2.1, by rw [u3.2.2.2.1, h68], by rw [u3.2.2.2.2, h69]⟩
theorem z_vin {x : Int32} {k n : Nat} {hh : xb_H} {d : Nat} (h1 : x.toInt = k) (h2 : xb_n hh d = n) (h3 : k < n) : vp_in x (xb_n hh d) := by
  rw [z_in, h1, h2]
  omega
theorem z_4m {x : Int32} (h1 : x.toInt = m) (h2 : m < 64) : (4 * x).toInt = (4 * m : Nat) ∧ (4 * x).toNatClampNeg = 4 * m ∧ 4 * m < 256 := by
  have e : (4 * x).toInt = (4 * m : Nat) := by
    rw [Int32.toInt_mul, z_bm, h1]
    simp only [Int32.reduceToInt]
    omega
  exact ⟨e, by rw [z_cl, e]; omega, by omega⟩
theorem z_12m {x : Int32} (h1 : x.toInt = m) (h2 : m < 64) : (12 * x + 10).toInt = (12 * m + 10 : Nat) ∧ (12 * x + 10).toNatClampNeg = 12 * m + 10 ∧ 12 * m + 10 < 768 := by
  have e : (12 * x + 10).toInt = (12 * m + 10 : Nat) := by
    rw [z_add, Int32.toInt_mul, z_bm, h1]
    simp only [Int32.reduceToInt]
    omega
  exact ⟨e, by rw [z_cl, e]; omega, by omega⟩
theorem z_le5 {a b c d e g : Nat} (h1 : a ≤ b) (h2 : b < c) (h3 : c < d) (h4 : d + 2 * g ≤ e) : a ≤ e := by omega
theorem n_call {x1 : Int32} (hA : rU own mm A h F v DM len rl K) (hx : x1.toInt = f) (hf : fnO v f) (h68 : (v 68).toInt = cs.length) (h76 : (v 76).toInt = (base + (fPl (fun k => F (A k)) DM f).length : Nat)) (h81 : (v 81).toInt = o) (hR : RC (fun k => F (A k)) v DM cs (tp (fRt (fun k => F (A k)) DM f)) base o) (hT : tyS (F (A 75)) base (fPl (fun k => F (A k)) DM f)) (hh : cs ≠ [] → ∃ op : Nat, o = op + 1 ∧ (F (A 80) op).toInt ≤ base) (h82 : v 82 = 0) (hb : base + (fPl (fun k => F (A k)) DM f).length ≤ 16384)
    (hQ : ∀ (h' : xb_H) (F' : Nat → Nat → Int32) (v' : Nat → Int32) (w' : rWd) (z : cZ), pC own mm A DM len rl K h F v h' F' v' w' z → caR A F DM cs base f (xb_l h (A 74)) (rwd A h F v) w' z → Q (mH h' F' mm v')) : w_M_call mm x1 (mH h F mm v) Q := by
  have ob := hR.ob
  have hlc := hR.lc
  have hB := hA.B
  have n43 := (hA.n (k := 43) (b := 8192) (by decide)).2
  obtain ⟨g75, k75, n75, m75⟩ := hB.kx (k := 75) (kd := 100) (n := 18384) (by decide) (by decide)
  obtain ⟨g80, k80, n80, m80⟩ := hB.kx (k := 80) (kd := 102) (n := 40400) (by decide) (by decide)
  have hA' : ∀ v1 : Nat → Int32, vg v v1 → v1 17 = 0 → rU own mm A h F v1 DM len rl K := fun v1 g1 w1 => hA.sF g1.sF w1 (by rw [g1 94 (by decide) (by decide) (by decide) (by decide) (by decide)]; exact hA.W1.2.1.2.2)
  have z94 : v 94 = 0 := hA.W1.2.1.2.2
  unfold w_M_call
  refine ⟨hB.2.1, n_parametersOf hA hx hf (fun v1 r3 g1 w1 e3 _ v4 e4 => ?_)⟩
  rw [mH_i, g1 76 (by decide) (by decide) (by decide) (by decide) (by decide)] at e4
  have hv4 : v4.toInt = base := by
    rw [e4, z_sub, h76, e3]
    omega
  have o43 : ∀ v1 : Nat → Int32, vg v v1 → vN v1 43 = vN v 43 := fun v1 g1 => by
    unfold vN
    rw [g1 43 (by decide) (by decide) (by decide) (by decide) (by decide)]
  have fo : ∀ v1 : Nat → Int32, vg v v1 → fnO v1 f := fun v1 g1 => by
    unfold fnO
    rw [o43 v1 g1]
    exact hf
  -- behind the parameters' check
  have L115 : ∀ v2 : Nat → Int32, vg v v2 → v2 17 = 0 → w_M_call_L115 Q mm x1 r3 v4 0 mm (mH h F mm v2) := by
    intro v2 g2 w2
    unfold w_M_call_L115
    refine ⟨hB.2.1, .inl rfl, fun h3 e3' => ?_⟩
    rw [mH_I, vu_id (show v2 94 = 0 by rw [g2 94 (by decide) (by decide) (by decide) (by decide) (by decide)]; exact z94)] at e3'
    subst e3'
    have hA2 := hA' v2 g2 w2
    refine ⟨fun hown => ?_, fun hhost => ?_⟩
    · -- a function of a module
      rw [z_lt, hx] at hown
      simp only [Int32.reduceToInt] at hown
      have hf43 : f < vN v 43 := by
        rcases hf with hf | hf
        · exact hf
        · omega
      obtain ⟨iz, mz, bz, y1, y2, y3, y4, y5, y6, y7, y8, y9, y10, y11, y12⟩ := hA.fn hf43
      have hX := hA.X y5
      obtain ⟨-, hRd, -, hlen, hMV⟩ := hA.I.2.1 mz y5
      obtain ⟨m64, -, -, -, hsec, im⟩ := hX.2.1
      have bi := hX.2.2.ib (κ := 0)
      have b3 := (hX.2.2.2.2.2.1 3 (by decide)).1
      have b10 : qt (DM mz) 10 = qt (DM mz) 3 := hRd.2.2.2.2
      have bE2 := hX.2.2.2.2.1
      obtain ⟨e8a, f8, e8b, e8c, -⟩ := hsec 10 (by decide)
      have e8d := hlen 10 (by decide) (by omega)
      rw [aV_of (φ := fun k => F (A k)) e8b] at e8d
      have hb2 : bok (DM mz) bz (F (A 12) (f8 + bz)).toInt := by
        have h9 := hMV.2 bz y7
        rw [aV_of (φ := fun k => F (A k)) e8b] at h9
        exact h9
      obtain ⟨T1, -⟩ := hX.2.2.tb y11
      generalize hrmm : (F (A 12) (f8 + bz)).toInt = rmm at hb2
      obtain ⟨p1, nB, p2, gg, p3, T, E, ⟨c1, c2, c3, c4, c5, c6⟩, ⟨d1, d2⟩, ν0, ν1, G, V, d3, d4, d5⟩ := hb2
      have hlz := hA.2.2.1.2.2.2.2
      have ll := hA.2.1
      obtain ⟨g44, k44, n44, m44⟩ := hB.kx (k := 44) (kd := 102) (n := 8192) (by decide) (by decide)
      obtain ⟨g31, k31, n31, m31⟩ := hB.kx (k := 31) (kd := 102) (n := 24) (by decide) (by decide)
      obtain ⟨g10, k10, n10, m10⟩ := hB.kx (k := 10) (kd := 102) (n := 256) (by decide) (by decide)
      obtain ⟨g45, k45, n45, m45⟩ := hB.kx (k := 45) (kd := 102) (n := 8192) (by decide) (by decide)
      obtain ⟨g8, k8, n8, m8⟩ := hB.kx (k := 8) (kd := 102) (n := 768) (by decide) (by decide)
      obtain ⟨g12, k12, -, -⟩ := hB.g (k := 12) (kd := 102) (n := 0) (by decide)
      have m12 : A 12 ≠ mm := hB.nm (by decide)
      have cl : x1.toNatClampNeg = f := by rw [z_cl, hx]; omega
      have inf : ∀ A' : Nat, xb_n h A' = 8192 → vp_in x1 (xb_n h A') := fun A' hA' => by rw [z_in, hx, hA']; omega
      refine ⟨hB.2.1, A 44, g44, k44, inf _ n44, fun v9 e9 => ?_⟩
      rw [mH_o m44, cl] at e9
      have h9 : v9.toInt = iz := by rw [e9]; exact y1
      have c9 : v9.toNatClampNeg = iz := by rw [z_cl, h9]; omega
      refine ⟨A 31, g31, k31, z_vin h9 n31 y2, fun v13 e13 => ?_⟩
      rw [mH_o m31, c9] at e13
      have h13 : v13.toInt = mz := by rw [e13]; exact y4
      obtain ⟨e4m, c4m, q4m⟩ := z_4m h13 m64
      obtain ⟨e12, c12, q12⟩ := z_12m h13 m64
      refine ⟨A 10, g10, k10, z_vin e4m n10 q4m, A 45, g45, k45, inf _ n45, ?_⟩
      rw [mH_o m10, c4m, mH_o m45, cl]
      have ei0 : (F (A 10) (4 * mz)).toInt = iM (DM mz) 0 := im 0 (by decide)
      refine m_typeOf hX w2 h13 (f := iM (DM mz) 0 + bz) (z_ad2 ei0 y6 (by omega) (by omega)) (by omega) (by omega) (fun v3 r21 g3 w3 e21 _ => ?_)
      refine m_resultOf hX w3 h13 e21 y11 (fun v5 r23 g5 w5 e23 _ => ⟨A 45, g45, k45, inf _ n45, ?_⟩)
      rw [mH_o m45]
      refine m_placeOf (s := 10) (k := bz) hX h13 rfl (by decide) y6 (by omega) (fun r28 e28 _ => ?_)
      have pl := (hX.2.2.2.2.2.1 10 (by decide)).2 bz (by omega)
      have bc1 := rC_b c1
      have bc2 := rC_b c2
      obtain ⟨-, lq⟩ := lgs_l c3
      have qbp : qb (DM mz) ≤ p3 := z_le5 pl.1 bc1.1 bc2.1 lq
      refine m_go_k hX w5 h13 e28 pl.1 (by omega) (fun v6 k6 _ => m_count_k hX.rd k6.2.2.1 k6.2.2.2 c1 (by omega) (fun v7 r7 w7 _ => ?_))
      refine m_readLocals hX h13 e21 y11 w7 (r7.P k6.2.2.1) c2 rfl c3 (by omega) c4 (fun v8 w g8' k8' e20 hw8 _ => ?_)
      -- the numbers now
      have vg7 : vg v v7 := g2.tr (g3.tr (g5.tr (k6.1.tr r7.vg)))
      have vo8 : ∀ j, j ∉ [14, 15, 16, 17, 18, 20] → v8 j = v j := fun j hj => by
        have q : ∀ i, i ∈ [14, 15, 16, 17, 18, 20] → j ≠ i := fun i hi e => hj (e ▸ hi)
        rw [g8' j (q 14 (by decide)) (q 15 (by decide)) (q 16 (by decide)) (q 17 (by decide)) (q 18 (by decide)) (q 20 (by decide)), vg7 j (q 14 (by decide)) (q 15 (by decide)) (q 16 (by decide)) (q 17 (by decide)) (q 18 (by decide))]
      have s8 : sF own A h F v h (va_up F (A 19) w) v8 := (sF.a1 hB (by decide) (by decide)).tr ⟨⟨f0.rf, fun _ _ => rfl, id⟩, fun _ _ => rfl, fun j hj => vo8 j (fun h9 => hj ((by decide : ∀ j, j ∈ [14, 15, 16, 17, 18, 20] → j ∈ rnV) j h9))⟩
      have hA8 : rU own mm A h (va_up F (A 19) w) v8 DM len rl K := hA.sF s8 k8'.2.2.2 (by rw [vo8 94 (by decide)]; exact z94)
      have a19 : ∀ k, (∃ e ∈ aL, e.1 = k) → k ≠ 19 → va_up F (A 19) w (A k) = F (A k) := fun k g1 g2 => by rw [xh_up, if_neg (hB.ne g1 (by decide) g2)]
      have L307 : (cs.length = 200 ∨ 16384 < (base + (tPn (DM mz) (fty (DM mz) (iM (DM mz) 0 + bz)) + T) : Int) + rmm) → w_M_call_L307 Q mm (mH h (va_up F (A 19) w) mm v8) := by
        intro hbd
        unfold w_M_call_L307
        refine ⟨hB.2.1, fun h2 e2 => ?_⟩
        rw [mH_I] at e2
        subst e2
        have s9 : sF own A h F v h (va_up F (A 19) w) (va_up v8 82 9) := s8.tr (sF.v1 (by decide))
        exact hQ _ _ _ (rwd A h F v) (.inr 9) ⟨s9.P hB, s9.W hB, hA.sF s9 (by rw [xh_up, if_neg (by decide)]; exact k8'.2.2.2) (by rw [xh_up, if_neg (by decide), vo8 94 (by decide)]; exact z94), by rw [xh_up, if_pos rfl], by decide, by rw [xh_up, if_neg (by decide), vo8 68 (by decide)], a19 69 (by decide) (by decide)⟩ (.inl ⟨by omega, iz, mz, bz, y1, y4, y6, p1, nB, p2, gg, p3, T, c1, c2, c3, f8, rmm, e8b, hrmm, rfl, .inl ⟨hbd, rfl⟩⟩)
      refine ⟨fun e200 => L307 (.inl ?_), fun hn200 => ⟨A 12, g12, A 8, g8, k8, ?_, A 45, g45, k45, inf _ n45, k12, ?_, fun hle => ?_, fun hgt => L307 (.inr ?_)⟩⟩
      · rw [mH_i, z_eq, vo8 68 (by decide), h68] at e200
        simp only [Int32.reduceToInt] at e200
        omega
      · exact z_vin e12 n8 q12
      · rw [mH_o m8, mH_o m45, c12, a19 8 (by decide) (by decide), a19 45 (by decide) (by decide), z_in, z_ad2 e8b y6 (by omega) (by omega)]
        show _ ∧ _ < ((xb_n h (A 12) : Nat) : Int)
        rw [ll.2.1]
        omega
      · intro h46 e46
        rw [mH_I] at e46
        subst e46
        rw [mH_i, mH_o m12, mH_o m8, mH_o m45, c12, a19 8 (by decide) (by decide), a19 45 (by decide) (by decide), a19 12 (by decide) (by decide), z_cl, z_ad2 e8b y6 (by omega) (by omega), Int.toNat_natCast, z_le, z_add, z_ad2 hv4 e20 (by omega) (by omega), hrmm] at hle
        simp only [Int32.reduceToInt] at hle
        rw [mH_i, z_eq, vo8 68 (by decide), h68] at hn200
        simp only [Int32.reduceToInt] at hn200
        obtain ⟨em, et, ep, er⟩ := fMo.st (DM := DM) (φ := fun k => F (A k)) (φ' := fun k => va_up F (A 19) w (A k)) (a19 31 (by decide) (by decide)) (a19 44 (by decide) (by decide)) (a19 45 (by decide) (by decide))
        have e43 : vN (va_up v8 76 (v4 + r3)) 43 = vN v 43 := by
          unfold vN
          rw [xh_up, if_neg (by decide), vo8 43 (by decide)]
        have ePl : fPl (fun k => F (A k)) DM f = ptl (qc (DM mz)) (tPa (DM mz) (fty (DM mz) (iM (DM mz) 0 + bz))) (tPn (DM mz) (fty (DM mz) (iM (DM mz) 0 + bz))) := by
          unfold fPl
          rw [if_pos (by omega), y9, y10]
        have eLn : (fPl (fun k => F (A k)) DM f).length = tPn (DM mz) (fty (DM mz) (iM (DM mz) 0 + bz)) := by rw [ePl, ptl_len]
        have v768 : (v4 + r3).toInt = (base + (fPl (fun k => F (A k)) DM f).length : Nat) := z_ad2 hv4 e3 (by omega) (by omega)
        have s9 : sF own A h F v h (va_up F (A 19) w) (va_up v8 76 (v4 + r3)) := s8.tr (sF.v1 (by decide))
        have hA9 : rU own mm A h (va_up F (A 19) w) (va_up v8 76 (v4 + r3)) DM len rl K := hA.sF s9 (by rw [xh_up, if_neg (by decide)]; exact k8'.2.2.2) (by rw [xh_up, if_neg (by decide), vo8 94 (by decide)]; exact z94)
        have loj : ∀ i, i < tPn (DM mz) (fty (DM mz) (iM (DM mz) 0 + bz)) + T → (w i).toInt = ck_lt (qc (DM mz)) (lof (qc (DM mz)) gg.toInt.toNat p2) (tPa (DM mz) (fty (DM mz) (iM (DM mz) 0 + bz))) (tPn (DM mz) (fty (DM mz) (iM (DM mz) 0 + bz))) i ∧ 124 ≤ (w i).toInt ∧ (w i).toInt ≤ 127 := fun i hi => by
          obtain ⟨q1, q2, q3⟩ := hw8 i hi
          refine ⟨?_, q2, q3⟩
          unfold lty at q1
          unfold ck_lt
          split
          · next e => rw [if_pos e] at q1; exact q1
          · next e =>
            rw [if_neg e] at q1
            unfold lof
            rw [z_ofI (by omega) (by omega)]
            exact q1
        have lo2 : ∀ j, j < T → 124 ≤ (lof (qc (DM mz)) gg.toInt.toNat p2 j).toInt ∧ (lof (qc (DM mz)) gg.toInt.toNat p2 j).toInt ≤ 127 := fun j hj => by
          obtain ⟨q1, q2, q3⟩ := loj (tPn (DM mz) (fty (DM mz) (iM (DM mz) 0 + bz)) + j) (by omega)
          unfold ck_lt at q1
          rw [if_neg (by omega), show tPn (DM mz) (fty (DM mz) (iM (DM mz) 0 + bz)) + j - tPn (DM mz) (fty (DM mz) (iM (DM mz) 0 + bz)) = j by omega] at q1
          omega
        have hbw : bWt (DM mz) (fty (DM mz) (iM (DM mz) 0 + bz)) T p3 E (lof (qc (DM mz)) gg.toInt.toNat p2) ν0 ν1 G V rmm := ⟨c4, c5, ⟨qbp, c6⟩, ⟨d1, d2⟩, y11, lo2, d3, d4, d5⟩
        refine ⟨T + 1, n_new (cs := cs) (o := o) (base := base) (nl := tPn (DM mz) (fty (DM mz) (iM (DM mz) 0 + bz)) + T) (p3 := p3) (w := w) (x9 := 0) hA9 hx (by rw [e43]; exact hf43) (by rw [xh_up, if_neg (by decide), vo8 68 (by decide)]; exact h68) (by omega) (by rw [xh_up, if_neg (by decide), vo8 81 (by decide)]; exact h81) hv4 ?_ (by rw [em]; exact y9) (by rw [et]; exact y10) hbw rfl (by omega) (by rw [xh_up, if_neg (by decide)]; exact e20) (by rw [xh_up, if_neg (by decide)]; exact k8'.2.2.1.1) e23 (by rw [xh_up, if_pos rfl]) loj (fun i hi => ?_) (by rw [xh_up, if_neg (by decide), vo8 82 (by decide)]; exact h82) (fun h' F' v' hu => hQ h' F' v' _ _ (pC.tr (s9.P hB) (by rw [xh_up, if_neg (by decide), vo8 68 (by decide)]) (a19 69 (by decide) (by decide)) hu) (.inl ⟨by omega, iz, mz, bz, y1, y4, y6, p1, nB, p2, gg, p3, T, c1, c2, c3, f8, rmm, e8b, hrmm, s9.W hB, .inr ⟨by omega, by omega, rfl⟩⟩)) T (tPn (DM mz) (fty (DM mz) (iM (DM mz) 0 + bz))) h _ _ r3 (by omega) (by rw [e3, eLn]) (Nat.le_refl _) sF.rf (fun _ _ => rfl) (fun _ _ => rfl) (by rw [xh_up, if_pos rfl, v768, eLn]) (fun _ _ => rfl) (fun i hi => ?_) (by funext i; unfold zrW; rw [if_neg (by omega)])⟩
        · rw [er]
          refine hR.fr (φ' := fun k => va_up F (A 19) w (A k)) (a19 31 (by decide) (by decide)) (a19 44 (by decide) (by decide)) (a19 45 (by decide) (by decide)) e43 (fun k hk j _ => ?_) (fun j _ => ?_) (fun k hk j _ => ?_)
          · have q : ∀ k, k ∈ [69, 70, 71, 72, 73] → (∃ e ∈ aL, e.1 = k) ∧ k ≠ 19 := by decide
            show va_up F (A 19) w (A k) j = F (A k) j
            rw [a19 k (q k hk).1 (q k hk).2]
          · show va_up F (A 19) w (A 75) j = F (A 75) j
            rw [a19 75 (by decide) (by decide)]
          · have q : ∀ k, k ∈ [77, 78, 79, 80] → (∃ e ∈ aL, e.1 = k) ∧ k ≠ 19 := by decide
            show va_up F (A 19) w (A k) j = F (A k) j
            rw [a19 k (q k hk).1 (q k hk).2]
        · rw [a19 75 (by decide) (by decide)]
          unfold ck_lt
          rw [if_pos hi]
          rw [ePl] at hT
          exact ptl_ix hT i hi
        · rw [a19 75 (by decide) (by decide)]
          unfold ck_lt
          rw [if_pos hi]
          rw [ePl] at hT
          exact ptl_ix hT i hi
      · rw [mH_i, mH_o m12, mH_o m8, mH_o m45, c12, a19 8 (by decide) (by decide), a19 45 (by decide) (by decide), a19 12 (by decide) (by decide), z_cl, z_ad2 e8b y6 (by omega) (by omega), Int.toNat_natCast, z_le, z_add, z_ad2 hv4 e20 (by omega) (by omega), hrmm] at hgt
        simp only [Int32.reduceToInt] at hgt
        omega
    · -- the host's
      rw [z_lt, hx] at hhost
      simp only [Int32.reduceToInt] at hhost
      have hf100 : ¬ f < 100000 := by omega
      have er : fRt (fun k => F (A k)) DM f = 64 := by
        unfold fRt
        rw [if_neg hf100]
      rw [er, tp_64] at hR
      obtain ⟨g74, k74, n74, m74⟩ := hB.kx (k := 74) (kd := 103) (n := 18384) (by decide) (by decide)
      obtain ⟨g87, k87, n87, m87⟩ := hB.kx (k := 87) (kd := 103) (n := 4096) (by decide) (by decide)
      have o87 : 60 ≤ own (A 87) := by rw [hB.o (by decide)]; omega
      obtain ⟨b88, b88'⟩ := hA.n (k := 88) (b := 4096) (by decide)
      refine ⟨hB.2.1, fun h48 e48 => ?_⟩
      rw [mH_I] at e48
      subst e48
      rw [mH_i, xh_up, if_neg (by decide), g2 88 (by decide) (by decide) (by decide) (by decide) (by decide)]
      have vo : ∀ j, j ≠ 76 → va_up v2 76 v4 j = v2 j := fun j hj => by rw [xh_up, if_neg hj]
      refine ⟨fun hne => ⟨A 87, g87, A 74, g74, k74, ?_, k87, ?_, fun h56 e56 h57 e57 => ?_⟩, fun he h58 e58 => ?_⟩
      · rw [z_in, hv4]
        show _ ∧ _ < ((xb_n h (A 74) : Nat) : Int)
        omega
      · rw [z_in, b88]
        have : (vN v 88 : Int) ≠ 4096 := fun e => hne (by rw [z_eq, b88, e]; rfl)
        show _ ∧ _ < ((xb_n h (A 87) : Nat) : Int)
        omega
      · have h88 : (vN v 88 : Int) ≠ 4096 := fun e => hne (by rw [z_eq, b88, e]; rfl)
        have e56' : h56 = mH (xb_L h (A 87) (v 88).toNatClampNeg (xb_l h (A 74) v4.toNatClampNeg)) F mm (va_up v2 76 v4) := e56
        subst e56'
        rw [mH_i, mH_I, vo 88 (by decide), g2 88 (by decide) (by decide) (by decide) (by decide) (by decide)] at e57
        subst e57
        unfold w_M_call_L174
        have e88 : (v 88 + 1).toInt = (vN v 88 + 1 : Nat) := z_inc b88 (by omega)
        have vz : ∀ j, j ∉ [14, 15, 16, 17, 18, 76, 88] → va_up (va_up v2 76 v4) 88 (v 88 + 1) j = v j := fun j hj => by
          have q : ∀ i, i ∈ [14, 15, 16, 17, 18, 76, 88] → j ≠ i := fun i hi e => hj (e ▸ hi)
          rw [xh_up, if_neg (q 88 (by decide)), vo j (q 76 (by decide)), g2 j (q 14 (by decide)) (q 15 (by decide)) (q 16 (by decide)) (q 17 (by decide)) (q 18 (by decide))]
        have hv : ∀ j, j ∉ rnV → j ≠ 53 → j ≠ 88 → va_up (va_up v2 76 v4) 88 (v 88 + 1) j = v j := fun j h1 h2 h3 => vz j (fun h9 => by
          have q : ∀ j, j ∈ [14, 15, 16, 17, 18, 76, 88] → j ∈ rnV ∨ j = 88 := by decide
          exact (q j h9).elim h1 h3)
        have xo : ∀ d, d ≠ A 87 → xb_l (xb_L h (A 87) (v 88).toNatClampNeg (xb_l h (A 74) v4.toNatClampNeg)) d = xb_l h d := fun d hd => by
          rw [show xb_l (xb_L h (A 87) (v 88).toNatClampNeg (xb_l h (A 74) v4.toNatClampNeg)) = va_up (xb_l h) (A 87) (va_up (xb_l h (A 87)) (v 88).toNatClampNeg (xb_l h (A 74) v4.toNatClampNeg)) from rfl, xh_up, if_neg hd]
        have q8 : ∀ k, k ∈ kL → (∃ e ∈ aL, e.1 = k) ∧ k ≠ 87 := by decide
        have x74 := xo (A 74) (hB.ne (by decide) (by decide) (by decide))
        have c4' : v4.toNatClampNeg = base := by rw [z_cl, hv4]; omega
        have c88 : (v 88).toNatClampNeg = vN v 88 := by rw [z_cl, b88]; omega
        have hfin : fnO v f := hf
        refine hQ _ _ _ ((rwd A h F v).1, (rwd A h F v).2.1, (rwd A h F v).2.2.1, (rwd A h F v).2.2.2.1, (rwd A h F v).2.2.2.2.1, v 88 + 1, va_up (xb_l h (A 87)) (vN v 88) (xb_l h (A 74) base)) (.inl (cs, 0, xb_l h (A 74))) ⟨⟨⟨f0.L o87, fun _ _ => rfl, fun k hk => xo _ (hB.ne (q8 k hk).1 (by decide) (q8 k hk).2), xo _ (Ne.symm (hB.nm (by decide))), fun h9 i => by rw [x74]; exact h9 i⟩, hv⟩, ?_, n_out hA hv (by rw [xh_up, if_pos rfl, e88]; omega) (vz 53 (by decide)) (by rw [xh_up, if_neg (by decide), vo 17 (by decide)]; exact w2) (by rw [vz 94 (by decide)]; exact z94) o87, by rw [vz 82 (by decide)]; exact h82, ⟨by rw [vz 68 (by decide)]; exact h68, fun e => ?_, fun _ => ⟨base, o, ?_, by rw [vz 81 (by decide)]; exact h81, ?_⟩⟩, x74⟩ (.inr ⟨by omega, .inl ⟨show (v 88).toInt ≠ 4096 by rw [b88]; exact h88, rfl, show (v 88).toInt = ((v 88).toInt.toNat : Int) by rw [b88]; rfl, rfl⟩⟩)
        · unfold rwd
          rw [xl_L, xo _ (hB.ne (j := 61) (by decide) (by decide) (by decide)), xh_up, if_neg (by decide), vo 53 (by decide), g2 53 (by decide) (by decide) (by decide) (by decide) (by decide), xh_up, if_pos rfl, c4', c88]
        · subst e
          rw [xh_up, if_neg (by decide), xh_up, if_pos rfl, hv4, hR.1]
        · rw [xh_up, if_neg (by decide), xh_up, if_pos rfl]
          exact hv4
        · · refine hR.fr rfl rfl rfl ?_ (fun _ _ _ _ => rfl) (fun _ _ => rfl) (fun _ _ _ _ => rfl)
            unfold vN
            rw [vz 43 (by decide)]
      · rw [mH_I] at e58
        subst e58
        unfold w_M_call_L174
        have s9 : sF own A h F v h F (va_up (va_up v2 76 v4) 82 10) := (g2.sF.tr (sF.v1 (by decide))).tr (sF.v1 (by decide))
        exact hQ _ _ _ (rwd A h F v) (.inr 10) ⟨s9.P hB, s9.W hB, hA.sF s9 (by rw [xh_up, if_neg (by decide), vo 17 (by decide)]; exact w2) (by rw [xh_up, if_neg (by decide), vo 94 (by decide), g2 94 (by decide) (by decide) (by decide) (by decide) (by decide)]; exact z94), by rw [xh_up, if_pos rfl], by decide, by rw [xh_up, if_neg (by decide), vo 68 (by decide), g2 68 (by decide) (by decide) (by decide) (by decide) (by decide)], rfl⟩ (.inr ⟨by omega, .inr ⟨show (v 88).toInt = 4096 by rw [he]; rfl, rfl, rfl⟩⟩)
  have L97 : ∀ v2 : Nat → Int32, vg v v2 → v2 17 = 0 → w_M_call_L97 Q mm x1 r3 v4 1 (mH h F mm v2) := by
    intro v2 g2 w2
    unfold w_M_call_L97
    rw [mH_i]
    exact ⟨hB.2.1, fun h9 => absurd (show v2 94 = 0 by rw [g2 94 (by decide) (by decide) (by decide) (by decide) (by decide)]; exact z94) h9, fun _ => ⟨fun _ => L115 v2 g2 w2, fun h9 => absurd h9 (by decide)⟩⟩
  have loop : ∀ (n j : Nat) (v2 : Nat → Int32) (x5 : Int32), n + j = (fPl (fun k => F (A k)) DM f).length → x5.toInt = j → vg v v2 → v2 17 = 0 → w_M_call_L45 Q (n + 1) mm x1 r3 v4 1 x5 (mH h F mm v2) := by
    intro n
    induction n with
    | zero =>
      intro j v2 x5 hj h5 g2 w2
      unfold w_M_call_L45
      refine ⟨fun _ => L97 v2 g2 w2, fun h9 => ?_⟩
      exfalso
      apply h9
      rw [z_le, e3, h5]
      omega
    | succ n ih =>
      intro j v2 x5 hj h5 g2 w2
      unfold w_M_call_L45
      rw [mH_i]
      have v294 : v2 94 = 0 := by rw [g2 94 (by decide) (by decide) (by decide) (by decide) (by decide)]; exact z94
      have e45 : (v4 + x5).toInt = (base + j : Nat) := z_ad2 hv4 h5 (by omega) (by omega)
      refine ⟨fun h9 => ?_, fun _ => ⟨fun h9 => absurd h9 (by decide), fun _ => ⟨hB.2.1, fun h9 => absurd v294 h9, fun _ => ⟨A 75, g75, k75, ?_, ?_⟩⟩⟩⟩
      · rw [z_le, e3, h5] at h9
        omega
      · rw [z_in, e45]
        show _ ∧ _ < ((xb_n h (A 75) : Nat) : Int)
        omega
      · refine n_parameterOf (hA' v2 g2 w2) hx (fo v2 g2) h5 (by omega) (fun v3 r9 g3 w3 e9 _ _ _ => ⟨fun _ => ?_, fun hne => ?_⟩)
        · unfold w_M_call_L88
          refine ⟨hB.2.1, .inl rfl, fun h3 e3' => ?_⟩
          rw [mH_I, vu_id (show v3 94 = 0 by rw [g3 94 (by decide) (by decide) (by decide) (by decide) (by decide)]; exact v294)] at e3'
          subst e3'
          exact ih (j + 1) v3 (x5 + 1) (by omega) (z_inc h5 (by omega)) (g2.tr g3) w3
        · exfalso
          apply hne
          rw [mH_o m75, z_cl, e45, Int.toNat_natCast, z_eq, e9]
          exact fPk_ix hT (by omega)
  have L35 : w_M_call_L35 Q mm x1 r3 v4 (mH h F mm v1) := by
    unfold w_M_call_L35 w_M_call_L40
    exact ⟨_, loop (fPl (fun k => F (A k)) DM f).length 0 v1 0 rfl rfl g1 w1⟩
  rw [mH_i]
  refine ⟨fun _ => L35, fun hne => ?_⟩
  have hne' : cs ≠ [] := fun e => hne (by rw [g1 68 (by decide) (by decide) (by decide) (by decide) (by decide), z_eq, h68, e]; rfl)
  obtain ⟨op, o1, o2⟩ := hh hne'
  have e81 : (v1 81 - 1).toInt = op := by
    rw [z_sub, g1 81 (by decide) (by decide) (by decide) (by decide) (by decide), h81]
    simp only [Int32.reduceToInt]
    omega
  refine ⟨A 80, g80, k80, ?_, fun hlt => ?_, fun _ => L35⟩
  · rw [z_in, e81]
    show _ ∧ _ < ((xb_n h (A 80) : Nat) : Int)
    omega
  · rw [mH_o m80, z_cl, e81, Int.toNat_natCast, z_lt, hv4] at hlt
    omega
end MRR
