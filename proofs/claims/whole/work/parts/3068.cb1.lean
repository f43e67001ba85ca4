-- the checker: a body's locals, the place behind an instruction
theorem sp_fill0_L10 {Qr : xb_H → Prop} {a : Nat} {x2 x3 : Int32} : ∀ (m : Nat) (x5 : Int32) (h : xb_H), xb_k h a = 100 → 0 ≤ x5.toInt → x2.toInt - x5.toInt ≤ m → x2.toInt ≤ xb_n h a →
    (∀ f : Nat → Int32, (∀ j : Nat, x5.toInt ≤ j → (j : Int) < x2.toInt → f j = vp_nar .byte x3) → (∀ j : Nat, ((j : Int) < x5.toInt ∨ x2.toInt ≤ j) → f j = xb_i h a j) → Qr (xb_Ia h a f)) → w_Arrays_fill0_L10 Qr (m + 1) a x2 x3 x5 h
  | m, x5, h, hk, h0, hm, hl, hQ => by
    unfold w_Arrays_fill0_L10
    refine ⟨fun hc => ?_, fun hc => ?_⟩
    · rw [z_le] at hc
      have := hQ (xb_i h a) (fun j h1 h2 => by omega) (fun j _ => rfl)
      rw [show xb_Ia h a (xb_i h a) = h from ?_] at this
      · exact this
      · show (h.1, h.2.1, va_up h.2.2.1 a (h.2.2.1 a), h.2.2.2.1, h.2.2.2.2) = h
        rw [show va_up h.2.2.1 a (h.2.2.1 a) = h.2.2.1 from ?_]
        funext b
        rw [xh_up]
        split
        · rename_i e
          rw [e]
        · rfl
    · rw [z_le] at hc
      refine ⟨hk, by rw [z_in]; omega, fun h4 e4 => ?_⟩
      have r5 := z_rg x5
      have r2 := z_rg x2
      have e1 : (x5 + 1).toInt = x5.toInt + 1 := by
        rw [z_add]
        simp
        omega
      match m, hm with
      | 0, hm => omega
      | m + 1, hm =>
        refine sp_fill0_L10 m (x5 + 1) h4 (by rw [e4]; exact hk) (by omega) (by omega) (by rw [e4]; exact hl) (fun f h1 h2 => ?_)
        rw [e4, xh_IaI]
        have := hQ f (fun j h3 h5 => ?_) (fun j h3 => ?_)
        · exact this
        · by_cases hj : (j : Int) = x5.toInt
          · rw [h2 j (by omega), e4, xh_iI, if_pos rfl, xh_up, if_pos (by rw [z_cl]; omega)]
          · exact h1 j (by omega) h5
        · rw [h2 j (by omega), e4, xh_iI, if_pos rfl, xh_up, if_neg (by rw [z_cl]; omega)]
theorem sp_fill0 {Qr : xb_H → Prop} {a : Nat} {x1 x2 x3 : Int32} {h : xb_H} (hk : xb_k h a = 100) (h0 : 0 ≤ x1.toInt) (h1 : x1.toInt ≤ x2.toInt) (hl : x2.toInt ≤ xb_n h a) (hn : xb_n h a ≤ 67108864)
    (hQ : ∀ f : Nat → Int32, (∀ j : Nat, x1.toInt ≤ j → (j : Int) < x2.toInt → f j = vp_nar .byte x3) → (∀ j : Nat, ((j : Int) < x1.toInt ∨ x2.toInt ≤ j) → f j = xb_i h a j) → Qr (xb_Ia h a f)) : w_Arrays_fill0 a x1 x2 x3 h Qr := by
  unfold w_Arrays_fill0 w_Arrays_rangeCheck
  have hI := z_nI (n := xb_n h a) (by omega)
  simp only [z_le, hI]
  refine ⟨hk, fun _ => ⟨fun _ => ⟨fun _ _ => ⟨(x2.toInt - x1.toInt).toNat + 1, ?_⟩, fun hc => ?_⟩, fun hc => ?_⟩, fun hc => ?_⟩
  · exact sp_fill0_L10 _ x1 h hk h0 (by omega) hl hQ
  · omega
  · exact hc (by simpa using h0)
  · omega
/-- the module's own numbers, while the checker works -/
def ck_S0 (nt cd im : Nat) (rw : Nat → Nat) (R0 : Nat → Nat → Int32) (cb iv ν : Nat → Int32) (F : Nat → Nat → Int32) : Prop := F nt = ν ∧ F cd = cb ∧ F im = iv ∧ ∀ k, k < 12 → F (rw k) = R0 k
section CB1
variable {S : Nat → Prop} {h0 h : xb_H} {md rd op ck cd nt im N oa rc rs : Nat} {ca : Nat → Nat} {rw it n : Nat → Nat} {vs : Nat → Nat → Int64} {cb ν iv lo : Nat → Int32} {R0 F : Nat → Nat → Int32} {bc bs : Nat} {Qt : String → xb_H → Nat → Nat → Prop} {cur : List Int} {fs r : List ckF} {f : ckF} {g p lc ty : Int}
theorem ck_S0.up {a : Nat} {φ : Nat → Int32} (hS : ck_S0 nt cd im rw R0 cb iv ν F) (h1 : a ≠ nt) (h2 : a ≠ cd) (h3 : a ≠ im) (h4 : ∀ k, k < 12 → rw k ≠ a) : ck_S0 nt cd im rw R0 cb iv ν (va_up F a φ) := by
  obtain ⟨s1, s2, s3, s4⟩ := hS
  exact ⟨by rw [xh_up, if_neg h1.symm]; exact s1, by rw [xh_up, if_neg h2.symm]; exact s2, by rw [xh_up, if_neg h3.symm]; exact s3, fun k hk => by rw [xh_up, if_neg (h4 k hk)]; exact s4 k hk⟩
theorem ck_S0.kk (hD : ck_D ck oa nt cd im ca rw) {φ : Nat → Int32} (hS : ck_S0 nt cd im rw R0 cb iv ν F) : ck_S0 nt cd im rw R0 cb iv ν (va_up F ck φ) := by
  obtain ⟨-, ⟨D5, D6, D7⟩, -, -, -, D11⟩ := hD
  exact hS.up D5 D6 D7 (fun k hk => (D11 k hk).1)
theorem ck_S0.ca0 (hD : ck_D ck oa nt cd im ca rw) {φ : Nat → Int32} (hS : ck_S0 nt cd im rw R0 cb iv ν F) : ck_S0 nt cd im rw R0 cb iv ν (va_up F (ca 0) φ) := by
  obtain ⟨-, -, -, D9, -, D11⟩ := hD
  obtain ⟨d1, d2, d3, d4, d5⟩ := D9 0 (by omega)
  exact hS.up d3 d4 d5 (fun k hk => (D11 k hk).2.2.2 0 (by omega))
theorem ck_S.S0 (hS : ck_S ck oa nt cd im ca rw R0 cb iv F cur fs ν lo g p lc ty) : ck_S0 nt cd im rw R0 cb iv ν F := by
  obtain ⟨-, so, sf, s7, s8, s9, s10, s11, s12⟩ := hS
  exact ⟨s7, s9, s10, s11⟩
theorem ck_H.S0 (hH : ck_H S h0 h md rd op ck cd nt im N oa ca rw it n vs cb iv R0) (hS : ck_S0 nt cd im rw R0 cb iv ν F) : md_M (xb_W h F) md cd nt im N rw it n vs cb ν iv := hH.2.1 F ν hS.1 hS.2.1 hS.2.2.1 hS.2.2.2
theorem cs_spreadLocals {x1 : Int32} {b : Nat} {Qr : xb_H → Prop} (hH : ck_H S h0 h md rd op ck cd nt im N oa ca rw it n vs cb iv R0) (hF : ck_Fr S h0 h F) (hS : ck_S0 nt cd im rw R0 cb iv ν F) (hx : x1.toInt = b) (hb : 5 * b + 5 ≤ n 9)
    (h1 : (vs 9 (5 * b + 1)).toInt ≤ 1000) (h2 : 0 ≤ (vs 9 (5 * b + 2)).toInt) (h3 : 0 ≤ (vs 9 (5 * b + 3)).toInt) (h4 : 2 * ((vs 9 (5 * b + 2)).toInt + (vs 9 (5 * b + 3)).toInt) ≤ n 10) (h5 : gsum (vs 10) (vs 9 (5 * b + 2)).toInt.toNat (vs 9 (5 * b + 3)).toInt.toNat = (vs 9 (5 * b + 1)).toInt) (hL : xr_L 2 mp10 (n 10) (vs 10)) (hn : n 10 ≤ 2 * N)
    (hQ : ∀ (F' : Nat → Nat → Int32) (lcn : Nat), (lcn : Int) = (vs 9 (5 * b + 1)).toInt → lcn ≤ 1000 → (∀ j, j < lcn → 124 ≤ (F' (ca 0) j).toInt ∧ (F' (ca 0) j).toInt ≤ 127) → ck_Fr S h0 h F' → ck_S0 nt cd im rw R0 cb iv ν F' → (F' ck 7).toInt = lcn → (∀ k, k ≠ 7 → F' ck k = F ck k) → Qr (xb_W h F')) : w_Checker_spreadLocals ck x1 (xb_W h F) Qr := by
  obtain ⟨-, -, ⟨r0, r1, r2, r3, ko, lo1, lo2⟩, hD, ⟨S1, S2, S3⟩, kck, kmd, ha, hN, ⟨knt, nnt, kcd, ncd⟩⟩ := id hH
  have a0 : xb_r h ck 6 = some (ca 0) ∧ xb_k h (ca 0) = 100 ∧ xb_n h (ca 0) = 1000 ∧ S (ca 0) := ha 0 (by omega)
  have c0ck : ca 0 ≠ ck := (hD.2.2.2.1 0 (by omega)).1
  obtain ⟨gf, hgf⟩ : ∃ gf : Nat, (vs 9 (5 * b + 2)).toInt = gf := ⟨(vs 9 (5 * b + 2)).toInt.toNat, by omega⟩
  obtain ⟨gn, hgn⟩ : ∃ gn : Nat, (vs 9 (5 * b + 3)).toInt = gn := ⟨(vs 9 (5 * b + 3)).toInt.toNat, by omega⟩
  rw [hgf, hgn, Int.toNat_natCast, Int.toNat_natCast] at h5
  rw [hgf, hgn] at h4
  have row : ∀ k : Nat, k < gn → 0 ≤ (vs 10 (2 * (gf + k))).toInt ∧ (vs 10 (2 * (gf + k))).toInt ≤ 1000 ∧ 124 ≤ (vs 10 (2 * (gf + k) + 1)).toInt ∧ (vs 10 (2 * (gf + k) + 1)).toInt ≤ 127 ∧ 2 * (gf + k) + 2 ≤ n 10 := fun k hk => by
    obtain ⟨⟨p1, p2, p3, p4⟩, p5⟩ := hL.at (by omega) (i := gf + k) (by omega)
    exact ⟨p1, p2, p3, p4, p5⟩
  have mono : ∀ d k : Nat, k + d ≤ gn → gsum (vs 10) gf k ≤ gsum (vs 10) gf (k + d) := by
    intro d
    induction d with
    | zero => intro k _; exact Int.le_refl _
    | succ d ih =>
      intro k hk
      have e1 := ih k (by omega)
      have e2 := (row (k + d) (by omega)).1
      show _ ≤ gsum (vs 10) gf (k + d) + (vs 10 (2 * (gf + (k + d)))).toInt
      omega
  have g0 : ∀ k, k ≤ gn → 0 ≤ gsum (vs 10) gf k ∧ gsum (vs 10) gf k ≤ 1000 := fun k hk => by
    have e1 := mono k 0 (by omega)
    have e2 := mono (gn - k) k (by omega)
    rw [Nat.zero_add] at e1
    rw [show k + (gn - k) = gn by omega, h5] at e2
    have e3 : gsum (vs 10) gf 0 = 0 := rfl
    omega
  have key : ∀ (m : Nat) (x2 x3 : Int32) (k : Nat) (F1 : Nat → Nat → Int32), x2.toInt = gf → x3.toInt = k → k ≤ gn → gn - k ≤ m → (F1 ck 7).toInt = gsum (vs 10) gf k → (∀ j : Nat, (j : Int) < gsum (vs 10) gf k → 124 ≤ (F1 (ca 0) j).toInt ∧ (F1 (ca 0) j).toInt ≤ 127) → ck_Fr S h0 h F1 → ck_S0 nt cd im rw R0 cb iv ν F1 → (∀ k, k ≠ 7 → F1 ck k = F ck k) → w_Checker_spreadLocals_L20 Qr (m + 1) ck x1 x2 x3 (xb_W h F1) := by
    intro m
    induction m with
    | zero =>
      intro x2 x3 k F1 e2 e3 hk hm g1 g2 g3 g4 g5
      have hM := hH.S0 g4
      unfold w_Checker_spreadLocals_L20
      refine ⟨kck, md, r0, kmd, rw 9, hM.row (by omega), hM.krow (by omega), md_at (c := 5) hM (i := b) (j := 3) (by omega) rfl hx rfl (by omega) hb (fun r7 e7 _ => ⟨fun _ => ?_, fun e => ?_⟩)⟩
      · have ek : k = gn := by omega
        rw [ek, h5] at g1 g2
        exact hQ F1 (vs 9 (5 * b + 1)).toInt.toNat (by have := g0 gn (Nat.le_refl _); omega) (by omega) (fun j hj => g2 j (by omega)) g3 g4 (by have := g0 gn (Nat.le_refl _); omega) g5
      · rw [z_le, e7, hgn] at e
        omega
    | succ m ih =>
      intro x2 x3 k F1 e2 e3 hk hm g1 g2 g3 g4 g5
      have hM := hH.S0 g4
      unfold w_Checker_spreadLocals_L20
      refine ⟨kck, md, r0, kmd, rw 9, hM.row (by omega), hM.krow (by omega), md_at (c := 5) hM (i := b) (j := 3) (by omega) rfl hx rfl (by omega) hb (fun r7 e7 _ => ⟨fun e => ?_, fun e => ?_⟩)⟩
      · rw [z_le, e7, hgn] at e
        have ek : k = gn := by omega
        rw [ek, h5] at g1 g2
        exact hQ F1 (vs 9 (5 * b + 1)).toInt.toNat (by have := g0 gn (Nat.le_refl _); omega) (by omega) (fun j hj => g2 j (by omega)) g3 g4 (by have := g0 gn (Nat.le_refl _); omega) g5
      · rw [z_le, e7, hgn] at e
        have hk2 : k < gn := by omega
        obtain ⟨p1, p2, p3, p4, p5⟩ := row k hk2
        have q1 := g0 k (by omega)
        have q2 := g0 (k + 1) (by omega)
        have q3 : gsum (vs 10) gf (k + 1) = gsum (vs 10) gf k + (vs 10 (2 * (gf + k))).toInt := rfl
        have e23 : (x2 + x3).toInt = (gf + k : Nat) := by rw [z_add, e2, e3]; omega
        refine ⟨md, r0, kmd, rw 10, hM.row (by omega), hM.krow (by omega), md_at (c := 2) hM (i := gf + k) (j := 0) (by omega) rfl e23 rfl (by omega) p5 (fun r14 e14 _ => ⟨ca 0, a0.1, md, r0, kmd, rw 10, hM.row (by omega), hM.krow (by omega), md_at (c := 2) hM (i := gf + k) (j := 1) (by omega) rfl e23 rfl (by omega) p5 (fun r21 e21 _ => ?_)⟩)⟩
        rw [Nat.add_zero] at e14
        have e14' : r14.toInt = (vs 10 (2 * (gf + k))).toInt := by omega
        have e21' : r21.toInt = (vs 10 (2 * (gf + k) + 1)).toInt := by omega
        have e7a : (F1 ck 7 + r14).toInt = gsum (vs 10) gf (k + 1) := by rw [z_add, g1, e14']; omega
        refine sp_fill0 a0.2.1 (by rw [xW_i, g1]; omega) (by rw [xW_i, e7a, g1]; omega) (by rw [xW_i, e7a, xW_n, a0.2.2.1]; omega) (by rw [xW_n, a0.2.2.1]; omega) (fun f f1 f2 _ h24 e24 => ?_)
        have hne : ck ≠ ca 0 := c0ck.symm
        have ehh : xb_Ia (xb_W h F1) (ca 0) f = xb_W h (va_up F1 (ca 0) f) := rfl
        rw [ehh, xW_i, xh_up, if_neg hne, xW_I, xh_up, if_neg hne] at e24
        subst e24
        have e3' : (x3 + 1).toInt = (k + 1 : Nat) := by rw [z_add, e3]; simp only [Int32.reduceToInt]; omega
        rw [xW_i, e7a, g1] at f1
        rw [xW_i, e7a, g1] at f2
        refine ih x2 (x3 + 1) (k + 1) _ e2 e3' (by omega) (by omega) (by rw [xh_up, if_pos rfl, xh_up, if_pos rfl]; exact e7a) (fun j hj => ?_) ((g3.up (.inl a0.2.2.2)).up (.inl S1)) ((g4.ca0 hD).kk hD) (fun i hi => by rw [xh_up, if_pos rfl, xh_up, if_neg hi]; exact g5 i hi)
        rw [xh_up, if_neg c0ck, xh_up, if_pos rfl]
        by_cases hj2 : (j : Int) < gsum (vs 10) gf k
        · rw [f2 j (.inl hj2)]
          exact g2 j hj2
        · rw [f1 j (by omega) (by omega), pk_vb, z_byte]
          omega
  unfold w_Checker_spreadLocals
  refine ⟨kck, fun h2 e2 => ?_⟩
  rw [xW_I] at e2
  subst e2
  have hS1 := hS.kk (φ := va_up (F ck) 7 0) hD
  have hM := hH.S0 hS1
  refine ⟨md, r0, kmd, rw 9, hM.row (by omega), hM.krow (by omega), md_at (c := 5) hM (i := b) (j := 2) (by omega) rfl hx rfl (by omega) hb (fun r8 e8 _ => ⟨gn + 1, ?_⟩)⟩
  exact key gn r8 0 0 _ (by omega) rfl (by omega) (by omega) (by rw [xh_up, if_pos rfl, xh_up, if_pos rfl]; rfl) (fun j hj => by have : gsum (vs 10) gf 0 = 0 := rfl; omega) (hF.up (.inl S1)) hS1 (fun i hi => by rw [xh_up, if_pos rfl, xh_up, if_neg hi])
theorem md_nextPlace {x : Int32} {q : Nat} {Qr : Int32 → xb_H → Prop} (hM : md_M h md cd nt im N rw it n vs cb ν iv) (hx : x.toInt = q) (hq : q + 2 ≤ N ∨ q < N) (hQ : ∀ y : Int32, (wk_sh ((cb q).toInt % 256) = 0 ∨ wk_sh ((cb q).toInt % 256) = 2 ∨ wk_sh ((cb q).toInt % 256) = 3 → y.toInt = q + 1) → (wk_sh ((cb q).toInt % 256) = 1 → y.toInt = q + 2) → (4 ≤ wk_sh ((cb q).toInt % 256) → y = ν q) → Qr y h) : w_StackModule_nextPlace md x h Qr := by
  obtain ⟨⟨m1, m2, m3, m4, m5⟩, ⟨m6, m7, m8, m9⟩, -, -, hN⟩ := hM
  have cx : x.toNatClampNeg = q := by rw [z_cl, hx]; omega
  unfold w_StackModule_nextPlace w_StackModule_nextPlace_L44
  refine ⟨m1, cd, m2, m3, by rw [z_in, hx, m4]; omega, ?_⟩
  rw [cx, m5]
  have e1 : (x + 1).toInt = q + 1 := by rw [z_add, hx]; simp only [Int32.reduceToInt]; omega
  have e2 : (x + 2).toInt = q + 2 := by rw [z_add, hx]; simp only [Int32.reduceToInt]; omega
  refine sp_Reader_shapeOf (by rw [z_255]; omega) (fun r hr _ => ?_)
  rw [z_255] at hr
  refine ⟨fun e => hQ _ (fun _ => e1) (fun h9 => ?_) (fun h9 => ?_), fun e => hQ _ (fun h9 => ?_) (fun _ => e2) (fun h9 => ?_), fun e => hQ _ (fun _ => e1) (fun h9 => ?_) (fun h9 => ?_), fun e => hQ _ (fun _ => e1) (fun h9 => ?_) (fun h9 => ?_), fun g0 g1 g2 g3 => ⟨nt, m6, m7, by rw [z_in, hx, m8]; omega, ?_⟩⟩
  · rw [e] at hr; simp only [Int32.reduceToInt] at hr; omega
  · rw [e] at hr; simp only [Int32.reduceToInt] at hr; omega
  · rw [e] at hr; simp only [Int32.reduceToInt] at hr; omega
  · rw [e] at hr; simp only [Int32.reduceToInt] at hr; omega
  · rw [e] at hr; simp only [Int32.reduceToInt] at hr; omega
  · rw [e] at hr; simp only [Int32.reduceToInt] at hr; omega
  · rw [e] at hr; simp only [Int32.reduceToInt] at hr; omega
  · rw [e] at hr; simp only [Int32.reduceToInt] at hr; omega
  · rw [z_eq] at g0 g1 g2 g3
    simp only [Int32.reduceToInt] at g0 g1 g2 g3
    rw [m9]
    exact hQ _ (fun h9 => by omega) (fun h9 => by omega) (fun _ => rfl)
end CB1
