-- equality: the class's checker, exact: a body
/-- locals spread out group by group -/
def spZ (v : Nat → Int64) (f gn : Nat) (lo : Nat → Int32) : Prop := ∀ i, i < gn → ∀ j : Nat, gsum v f i ≤ j → (j : Int) < gsum v f (i + 1) → (lo j).toInt = (v (2 * (f + i) + 1)).toInt
section CCD
variable {S : Nat → Prop} {h0 h : xb_H} {md rd op ck cd nt im N oa rc rs w0 : Nat} {ca : Nat → Nat} {rw it n : Nat → Nat} {vs vs' : Nat → Nat → Int64} {cb ν ν' ν0 iv lo : Nat → Int32} {R0 F : Nat → Nat → Int32} {bc bs : Nat} {Qt : String → xb_H → Nat → Nat → Prop} {cur : List Int} {fs r : List ckF} {f : ckF} {g p lc ty : Int} {C : Option (Nat × Nat)} {Z : Except (Nat × Nat) Int}
theorem cz_spreadLocals {x1 : Int32} {b : Nat} {Qr : xb_H → Prop} (hH : ck_H S h0 h md rd op ck cd nt im N oa ca rw it n vs cb iv R0) (hF : ck_Fr S h0 h F) (hS : ck_S0 nt cd im rw R0 cb iv ν F) (hx : x1.toInt = b) (hb : 5 * b + 5 ≤ n 9)
    (h1 : (vs 9 (5 * b + 1)).toInt ≤ 1000) (h2 : 0 ≤ (vs 9 (5 * b + 2)).toInt) (h3 : 0 ≤ (vs 9 (5 * b + 3)).toInt) (h4 : 2 * ((vs 9 (5 * b + 2)).toInt + (vs 9 (5 * b + 3)).toInt) ≤ n 10) (h5 : gsum (vs 10) (vs 9 (5 * b + 2)).toInt.toNat (vs 9 (5 * b + 3)).toInt.toNat = (vs 9 (5 * b + 1)).toInt) (hL : xr_L 2 mp10 (n 10) (vs 10)) (hn : n 10 ≤ 2 * N)
    (hQ : ∀ (F' : Nat → Nat → Int32) (lcn : Nat), (lcn : Int) = (vs 9 (5 * b + 1)).toInt → lcn ≤ 1000 → (∀ j, j < lcn → 124 ≤ (F' (ca 0) j).toInt ∧ (F' (ca 0) j).toInt ≤ 127) → ck_Fr S h0 h F' → ck_S0 nt cd im rw R0 cb iv ν F' → (F' ck 7).toInt = lcn → (∀ k, k ≠ 7 → F' ck k = F ck k) → spZ (vs 10) (vs 9 (5 * b + 2)).toInt.toNat (vs 9 (5 * b + 3)).toInt.toNat (F' (ca 0)) → Qr (xb_W h F')) : w_Checker_spreadLocals ck x1 (xb_W h F) Qr := by
  obtain ⟨-, -, ⟨r0, r1, r2, r3, ko, lo1, lo2⟩, hD, ⟨S1, S2, S3⟩, kck, kmd, ha, hN, ⟨knt, nnt, kcd, ncd⟩⟩ := id hH
  have a0 : xb_r h ck 6 = some (ca 0) ∧ xb_k h (ca 0) = 100 ∧ xb_n h (ca 0) = 1000 ∧ S (ca 0) := ha 0 (by omega)
  have c0ck : ca 0 ≠ ck := (hD.2.2.2.1 0 (by omega)).1
  obtain ⟨gf, hgf⟩ : ∃ gf : Nat, (vs 9 (5 * b + 2)).toInt = gf := ⟨(vs 9 (5 * b + 2)).toInt.toNat, by omega⟩
  obtain ⟨gn, hgn⟩ : ∃ gn : Nat, (vs 9 (5 * b + 3)).toInt = gn := ⟨(vs 9 (5 * b + 3)).toInt.toNat, by omega⟩
  rw [hgf, hgn, Int.toNat_natCast, Int.toNat_natCast] at h5
  rw [hgf, hgn] at h4
  have row : ∀ k : Nat, k < gn → 0 ≤ (vs 10 (2 * (gf + k))).toInt ∧ (vs 10 (2 * (gf + k))).toInt ≤ 1000 ∧ 124 ≤ (vs 10 (2 * (gf + k) + 1)).toInt ∧ (vs 10 (2 * (gf + k) + 1)).toInt ≤ 127 ∧ 2 * (gf + k) + 2 ≤ n 10 := fun k hk => by
    obtain ⟨⟨p1, p2, p3, p4⟩, p5⟩ := hL.at (by omega) (i := gf + k) (by omega)
    exact ⟨p1, p2, p3, p4, p5⟩
  have mono : ∀ d k : Nat, k + d ≤ gn → gsum (vs 10) gf k ≤ gsum (vs 10) gf (k + d) := by
    intro d
    induction d with
    | zero => intro k _; exact Int.le_refl _
    | succ d ih =>
      intro k hk
      have e1 := ih k (by omega)
      have e2 := (row (k + d) (by omega)).1
      show _ ≤ gsum (vs 10) gf (k + d) + (vs 10 (2 * (gf + (k + d)))).toInt
      omega
  have g0 : ∀ k, k ≤ gn → 0 ≤ gsum (vs 10) gf k ∧ gsum (vs 10) gf k ≤ 1000 := fun k hk => by
    have e1 := mono k 0 (by omega)
    have e2 := mono (gn - k) k (by omega)
    rw [Nat.zero_add] at e1
    rw [show k + (gn - k) = gn by omega, h5] at e2
    have e3 : gsum (vs 10) gf 0 = 0 := rfl
    omega
  have key : ∀ (m : Nat) (x2 x3 : Int32) (k : Nat) (F1 : Nat → Nat → Int32), x2.toInt = gf → x3.toInt = k → k ≤ gn → gn - k ≤ m → (F1 ck 7).toInt = gsum (vs 10) gf k → (∀ j : Nat, (j : Int) < gsum (vs 10) gf k → 124 ≤ (F1 (ca 0) j).toInt ∧ (F1 (ca 0) j).toInt ≤ 127) → ck_Fr S h0 h F1 → ck_S0 nt cd im rw R0 cb iv ν F1 → (∀ k, k ≠ 7 → F1 ck k = F ck k) → spZ (vs 10) gf k (F1 (ca 0)) → w_Checker_spreadLocals_L20 Qr (m + 1) ck x1 x2 x3 (xb_W h F1) := by
    intro m
    induction m with
    | zero =>
      intro x2 x3 k F1 e2 e3 hk hm g1 g2 g3 g4 g5 g6
      have hM := hH.S0 g4
      unfold w_Checker_spreadLocals_L20
      refine ⟨kck, md, r0, kmd, rw 9, hM.row (by omega), hM.krow (by omega), md_at (c := 5) hM (i := b) (j := 3) (by omega) rfl hx rfl (by omega) hb (fun r7 e7 _ => ⟨fun _ => ?_, fun e => ?_⟩)⟩
      · have ek : k = gn := by omega
        rw [ek, h5] at g1 g2
        rw [ek] at g6
        exact hQ F1 (vs 9 (5 * b + 1)).toInt.toNat (by have := g0 gn (Nat.le_refl _); omega) (by omega) (fun j hj => g2 j (by omega)) g3 g4 (by have := g0 gn (Nat.le_refl _); omega) g5 (by rw [hgf, hgn, Int.toNat_natCast, Int.toNat_natCast]; exact g6)
      · rw [z_le, e7, hgn] at e
        omega
    | succ m ih =>
      intro x2 x3 k F1 e2 e3 hk hm g1 g2 g3 g4 g5 g6
      have hM := hH.S0 g4
      unfold w_Checker_spreadLocals_L20
      refine ⟨kck, md, r0, kmd, rw 9, hM.row (by omega), hM.krow (by omega), md_at (c := 5) hM (i := b) (j := 3) (by omega) rfl hx rfl (by omega) hb (fun r7 e7 _ => ⟨fun e => ?_, fun e => ?_⟩)⟩
      · rw [z_le, e7, hgn] at e
        have ek : k = gn := by omega
        rw [ek, h5] at g1 g2
        rw [ek] at g6
        exact hQ F1 (vs 9 (5 * b + 1)).toInt.toNat (by have := g0 gn (Nat.le_refl _); omega) (by omega) (fun j hj => g2 j (by omega)) g3 g4 (by have := g0 gn (Nat.le_refl _); omega) g5 (by rw [hgf, hgn, Int.toNat_natCast, Int.toNat_natCast]; exact g6)
      · rw [z_le, e7, hgn] at e
        have hk2 : k < gn := by omega
        obtain ⟨p1, p2, p3, p4, p5⟩ := row k hk2
        have q1 := g0 k (by omega)
        have q2 := g0 (k + 1) (by omega)
        have q3 : gsum (vs 10) gf (k + 1) = gsum (vs 10) gf k + (vs 10 (2 * (gf + k))).toInt := rfl
        have e23 : (x2 + x3).toInt = (gf + k : Nat) := by rw [z_add, e2, e3]; omega
        refine ⟨md, r0, kmd, rw 10, hM.row (by omega), hM.krow (by omega), md_at (c := 2) hM (i := gf + k) (j := 0) (by omega) rfl e23 rfl (by omega) p5 (fun r14 e14 _ => ⟨ca 0, a0.1, md, r0, kmd, rw 10, hM.row (by omega), hM.krow (by omega), md_at (c := 2) hM (i := gf + k) (j := 1) (by omega) rfl e23 rfl (by omega) p5 (fun r21 e21 _ => ?_)⟩)⟩
        rw [Nat.add_zero] at e14
        have e14' : r14.toInt = (vs 10 (2 * (gf + k))).toInt := by omega
        have e21' : r21.toInt = (vs 10 (2 * (gf + k) + 1)).toInt := by omega
        have e7a : (F1 ck 7 + r14).toInt = gsum (vs 10) gf (k + 1) := by rw [z_add, g1, e14']; omega
        refine sp_fill0 a0.2.1 (by rw [xW_i, g1]; omega) (by rw [xW_i, e7a, g1]; omega) (by rw [xW_i, e7a, xW_n, a0.2.2.1]; omega) (by rw [xW_n, a0.2.2.1]; omega) (fun f f1 f2 _ h24 e24 => ?_)
        have hne : ck ≠ ca 0 := c0ck.symm
        have ehh : xb_Ia (xb_W h F1) (ca 0) f = xb_W h (va_up F1 (ca 0) f) := rfl
        rw [ehh, xW_i, xh_up, if_neg hne, xW_I, xh_up, if_neg hne] at e24
        subst e24
        have e3' : (x3 + 1).toInt = (k + 1 : Nat) := by rw [z_add, e3]; simp only [Int32.reduceToInt]; omega
        rw [xW_i, e7a, g1] at f1
        rw [xW_i, e7a, g1] at f2
        refine ih x2 (x3 + 1) (k + 1) _ e2 e3' (by omega) (by omega) (by rw [xh_up, if_pos rfl, xh_up, if_pos rfl]; exact e7a) (fun j hj => ?_) ((g3.up (.inl a0.2.2.2)).up (.inl S1)) ((g4.ca0 hD).kk hD) (fun i hi => by rw [xh_up, if_pos rfl, xh_up, if_neg hi]; exact g5 i hi) ?_
        · rw [xh_up, if_neg c0ck, xh_up, if_pos rfl]
          by_cases hj2 : (j : Int) < gsum (vs 10) gf k
          · rw [f2 j (.inl hj2)]
            exact g2 j hj2
          · rw [f1 j (by omega) (by omega), pk_vb, z_byte]
            omega
        · intro i hi j j1 j2
          rw [xh_up, if_neg c0ck, xh_up, if_pos rfl]
          by_cases hik : i = k
          · subst hik
            rw [f1 j (by omega) (by omega), pk_vb, z_byte]
            omega
          · have hm := mono (k - (i + 1)) (i + 1) (by omega)
            rw [show i + 1 + (k - (i + 1)) = k by omega] at hm
            rw [f2 j (.inl (by omega))]
            exact g6 i (by omega) j j1 j2
  unfold w_Checker_spreadLocals
  refine ⟨kck, fun h2 e2 => ?_⟩
  rw [xW_I] at e2
  subst e2
  have hS1 := hS.kk (φ := va_up (F ck) 7 0) hD
  have hM := hH.S0 hS1
  refine ⟨md, r0, kmd, rw 9, hM.row (by omega), hM.krow (by omega), md_at (c := 5) hM (i := b) (j := 2) (by omega) rfl hx rfl (by omega) hb (fun r8 e8 _ => ⟨gn + 1, ?_⟩)⟩
  exact key gn r8 0 0 _ (by omega) rfl (by omega) (by omega) (by rw [xh_up, if_pos rfl, xh_up, if_pos rfl]; rfl) (fun j hj => by have : gsum (vs 10) gf 0 = 0 := rfl; omega) (hF.up (.inl S1)) hS1 (fun i hi => by rw [xh_up, if_pos rfl, xh_up, if_neg hi]) (fun i hi => by omega)
theorem cz_checkBody {x1 : Int32} {b i t p0 E m : Nat} {Qr : xb_H → Nat → Nat → Prop} (hT : ckT S h0 md rd op ck ca rc rs w0 C Qt) (hH : ck_H S h0 h md rd op ck cd nt im N oa ca rw it n vs cb iv R0) (hF : ck_Fr S h0 h F) (hS : ck_S0 nt cd im rw R0 cb iv ν F) (hc : rc + 1 ≤ bc) (hb : rs + 6 ≤ bs) (hx : x1.toInt = b) (hb9 : 5 * b + 5 ≤ n 9) (hby : ∀ j, -128 ≤ (cb j).toInt ∧ (cb j).toInt ≤ 127)
    (hL : xr_L 5 (mp0 N cb) (n 0) (vs 0)) (hL10 : xr_L 2 mp10 (n 10) (vs 10)) (hn10 : n 10 ≤ 2 * N) (hn2 : n 2 ≤ 2 * N) (ht : t < n 0 / 5)
    (hv : ∀ i : Nat, i < n 5 / 4 → 4 * i + 4 ≤ n 5 ∧ 124 ≤ (vs 5 (4 * i + 1)).toInt ∧ (vs 5 (4 * i + 1)).toInt ≤ 127 ∧ ((vs 5 (4 * i + 2)).toInt = 0 ∨ (vs 5 (4 * i + 2)).toInt = 1))
    (hfn : ∀ i, i < n 2 / 2 → 2 * i + 2 ≤ n 2 ∧ 0 ≤ (vs 2 (2 * i + 1)).toInt ∧ (vs 2 (2 * i + 1)).toInt < (n 0 / 5 : Nat)) (hn0 : n 0 ≤ 2 * N) (hE : E ≤ N)
    (hi : (iv 0).toInt + b = i) (hi2 : i < n 2 / 2) (hit : (vs 2 (2 * i + 1)).toInt = t) (hp : (vs 9 (5 * b)).toInt = p0) (hwk : wk cb ν E m p0 [])
    (h1 : (vs 9 (5 * b + 1)).toInt ≤ 1000) (h2 : 0 ≤ (vs 9 (5 * b + 2)).toInt) (h3 : 0 ≤ (vs 9 (5 * b + 3)).toInt) (h4 : 2 * ((vs 9 (5 * b + 2)).toInt + (vs 9 (5 * b + 3)).toInt) ≤ n 10) (h5 : gsum (vs 10) (vs 9 (5 * b + 2)).toInt.toNat (vs 9 (5 * b + 3)).toInt.toNat = (vs 9 (5 * b + 1)).toInt) {pa0 P0 mf : Nat} (hpa0 : (vs 0 (5 * t + 1)).toInt = pa0) (hP0 : (vs 0 (5 * t + 2)).toInt = P0) (hZC : ∀ c w, Z = .error (c, w) → C = some (c, w + w0)) (hmf : E - p0 + 2 ≤ mf) (hZ : ∀ (lo : Nat → Int32) (lcn : Nat), (lcn : Int) = (vs 9 (5 * b + 1)).toInt → spZ (vs 10) (vs 9 (5 * b + 2)).toInt.toNat (vs 9 (5 * b + 3)).toInt.toNat lo → Z = bdZ n vs cb lo pa0 P0 t lcn ν mf p0 ([], [(0, (vs 0 (5 * t + 4)).toInt, (vs 0 (5 * t + 4)).toInt, [], 0)], 0))
    (hQ : ∀ (F' : Nat → Nat → Int32) (g : Int) (ν' lo : Nat → Int32) (lcn : Nat), (lcn : Int) = (vs 9 (5 * b + 1)).toInt → (∀ j, j < lcn → 124 ≤ (lo j).toInt ∧ (lo j).toInt ≤ 127) → ck_Fr S h0 h F' → ck_S0 nt cd im rw R0 cb iv ν' F' → spZ (vs 10) (vs 9 (5 * b + 2)).toInt.toNat (vs 9 (5 * b + 3)).toInt.toNat lo → ct_K n vs cb lo t lcn p0 E ν ν' g → (∀ j, j < p0 ∨ E ≤ j → ν' j = ν j) → 0 ≤ g → g ≤ N → (F' ck 5).toInt = g → Z = .ok g → Qr (xb_L (xb_W h F') (it 9) (5 * b + 4) (F' ck 5).toInt64) bc bs) : w_Checker_checkBody ck x1 (xb_W h F) bc bs Qr Qt := by
  obtain ⟨-, -, ⟨r0, r1, r2, r3, ko, lo1, lo2⟩, hD, ⟨S1, S2, S3⟩, kck, kmd, ha, hN, ⟨knt, nnt, kcd, ncd⟩⟩ := id hH
  have hM := hH.S0 hS
  obtain ⟨im1, im2, im3, im4⟩ := hM.2.2.2.1
  have hit2 := (hfn i hi2).1
  have ex : (xb_i (xb_W h F) im 0 + x1).toInt = i := by rw [im4, z_add, hx]; omega
  have hpE := hwk.lt
  unfold w_Checker_checkBody
  refine ⟨kck, md, r0, md, r0, kmd, im, im1, im2, by rw [im3, z_in]; decide, kmd, ?_⟩
  refine md_typeOf hM ex hit2 (by omega) (by omega) (fun r10 e10 _ h11 e11 => ?_)
  rw [xW_I] at e11
  subst e11
  have hS1 := hS.kk (φ := va_up (F ck) 8 r10) hD
  refine cz_spreadLocals hH (hF.up (.inl S1)) hS1 hx hb9 h1 h2 h3 h4 h5 hL10 hn10 (fun F2 lcn l1 l2 l3 hF2 hS2 l4 l5 l6 _ h14 e14 h15 e15 h16 e16 => ?_)
  rw [xW_I] at e14
  subst e14
  rw [xW_I, bx_uu, xh_up, if_pos rfl] at e15
  subst e15
  rw [xW_I, bx_uu, xh_up, if_pos rfl] at e16
  subst e16
  have hS3 := hS2.kk (φ := va_up (va_up (va_up (F2 ck) 4 0) 5 0) 16 0) hD
  have hM3 := hH.S0 hS3
  refine ⟨md, r0, kmd, rw 9, hM3.row (by omega), hM3.krow (by omega), md_at (c := 5) hM3 (i := b) (j := 0) (by omega) rfl hx rfl (by omega) hb9 (fun r22 e22 _ h23 e23 => ?_)⟩
  rw [xW_I, bx_uu, xh_up, if_pos rfl] at e23
  subst e23
  have hS4 := hS2.kk (φ := va_up (va_up (va_up (va_up (F2 ck) 4 0) 5 0) 16 0) 9 r22) hD
  have hM4 := hH.S0 hS4
  have e8 : xb_i (xb_W h (va_up F2 ck (va_up (va_up (va_up (va_up (F2 ck) 4 0) 5 0) 16 0) 9 r22))) ck 8 = r10 := by
    rw [xW_i, xh_up, if_pos rfl, xh_up, if_neg (by omega), xh_up, if_neg (by omega), xh_up, if_neg (by omega), xh_up, if_neg (by omega), l5 8 (by omega), xh_up, if_pos rfl, xh_up, if_pos rfl]
  have et : r10.toInt = t := by rw [e10, hit]
  refine ⟨md, r0, kmd, ?_⟩
  rw [e8]
  refine md_resultType hM4 hL et ht (fun r27 e27 e27' _ => ⟨md, r0, kmd, ?_⟩)
  rw [e8]
  refine md_resultType hM4 hL et ht (fun r31 e31 e31' _ => ?_)
  rw [Nat.add_zero, hp] at e22
  have e22' : r22.toInt = p0 := by omega
  have hF4 := hF2.up (f := va_up (va_up (va_up (va_up (F2 ck) 4 0) 5 0) 16 0) 9 r22) (.inl S1)
  have hne : ca 0 ≠ ck := (hD.2.2.2.1 0 (by omega)).1
  obtain ⟨lo, hlo⟩ : ∃ lo, lo = F2 (ca 0) := ⟨_, rfl⟩
  have hSS : ck_S ck oa nt cd im ca rw R0 cb iv (va_up F2 ck (va_up (va_up (va_up (va_up (F2 ck) 4 0) 5 0) 16 0) 9 r22)) [] [] ν lo 0 p0 lcn t := by
    obtain ⟨z1, z2, z3, z4⟩ := hS4
    refine ⟨⟨?_, ?_, ?_, ?_, ?_, ?_⟩, trivial, trivial, z1, by rw [xh_up, if_neg hne, hlo], z2, z3, z4, by simp⟩
    · rw [xh_up, if_pos rfl, xh_up, if_neg (by omega), xh_up, if_neg (by omega), xh_up, if_neg (by omega), xh_up, if_pos rfl]; rfl
    · rw [xh_up, if_pos rfl, xh_up, if_neg (by omega), xh_up, if_neg (by omega), xh_up, if_pos rfl]; rfl
    · rw [xh_up, if_pos rfl, xh_up, if_neg (by omega), xh_up, if_neg (by omega), xh_up, if_neg (by omega), xh_up, if_neg (by omega)]; exact l4
    · rw [xh_up, if_pos rfl, xh_up, if_neg (by omega), xh_up, if_neg (by omega), xh_up, if_neg (by omega), xh_up, if_neg (by omega), l5 8 (by omega), xh_up, if_pos rfl, xh_up, if_pos rfl]; exact et
    · rw [xh_up, if_pos rfl, xh_up, if_pos rfl]; exact e22'
    · rw [xh_up, if_pos rfl, xh_up, if_neg (by omega), xh_up, if_pos rfl]; rfl
  refine cs_openThing true hH hF4 hSS (by simp) (fun F5 hF5 hS5 _ => ⟨E - p0 + 2, ?_⟩)
  rw [e27, e31] at hS5
  refine cz_bodyLoop (ν := ν) hT hH hc hb hx hb9 hby hL ht l2 (lo := lo) (by rw [hlo]; exact l3) hv hfn hn0 hE hpa0 hP0 hZC (fun F' g ν' g1 g2 g3 g4 g5 g6 g7 g8 => hQ F' g ν' lo lcn l1 (by rw [hlo]; exact l3) g1 g2 (by rw [hlo]; exact l6) g3 g4 g5 g6 g7 g8) (E - p0) mf 0 p0 F5 [] (0, -1, (vs 0 (5 * t + 4)).toInt, (vs 0 (5 * t + 4)).toInt, [], 0, true) [] [] ν 0 (fun k a c gs => k = 0 ∧ a = p0 ∧ c = [] ∧ gs = []) (Nat.le_refl _) (by decide) (by simp) hF5 hS5 ?_ ⟨rfl, rfl, rfl, rfl⟩ ⟨fun _ => False, fun _ h9 => h9.elim, .inr rfl, fun a c gs h9 => .inr h9.2.1, ⟨0, rfl⟩, fun a c gs h9 => .inr ⟨h9.2.1, h9.2.2.1, h9.2.2.2⟩, fun y hy => by rw [List.mem_singleton] at hy; rw [hy]; exact .inl rfl⟩ (fun j _ => rfl) hmf (hZ lo lcn l1 (by rw [hlo]; exact l6))
  refine ⟨⟨Nat.le_refl _, trivial, by simp, rfl, rfl, rfl, rfl, rfl, rfl, rfl⟩, ⟨fun y hy => (by cases hy), ⟨[], rfl⟩, fun _ y hy => (by cases hy), by simp, Int.le_refl _, by simp, by simp⟩, fun _ => ⟨rfl, rfl, rfl, rfl⟩, ?_, ⟨fun o c gs h9 => (by cases h9.1), fun o c gs h9 => (by cases h9.1), fun o c gs h9 => (by cases h9.1)⟩, fun j _ => rfl, fun x hx => (by cases hx), m, hwk⟩
  rintro a c gs ⟨-, e1, e2, e3⟩
  subst e1 e2 e3
  exact ⟨⟨Nat.le_refl _, hpE, by simp, fun y hy => (by cases hy), m, [], hwk, trivial, rfl⟩, .inl ⟨rfl, rfl, rfl, rfl, rfl⟩⟩
end CCD
