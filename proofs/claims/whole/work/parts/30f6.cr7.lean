-- equality: the class's reader, exact: imports, data
def ep1 (cA : Nat → Int32) (b : Nat) (c : Int) (p : Nat) (w : Nat → Int) : Prop := w 0 + b = p ∧ w 1 = (ub cA (qN cA (qN cA p))).toInt ∧ w 2 = c ∧ w 3 + b = cE cA p ∧ w 4 = cV cA p ∧ w 5 + b = cE cA (qN cA p) ∧ w 6 = cV cA (qN cA p)
/-- what an import of a kind adds -/
def epI (cA : Nat → Int32) (b κ p : Nat) (w : Nat → Int) : Prop :=
  (κ = 0 → w 0 + b = p ∧ w 1 = cV cA (qN cA (qN cA p) + 1)) ∧ (κ = 1 → epL cA b p (qN cA (qN cA p) + 2) w) ∧ (κ = 2 → epL cA b p (qN cA (qN cA p) + 1) w) ∧ (κ = 3 → w 0 + b = p ∧ w 1 = (ub cA (qN cA (qN cA p) + 1)).toInt ∧ w 2 = (ub cA (qN cA (qN cA p) + 2)).toInt ∧ w 3 = -1)
def imL (κ : Nat) : Nat := if κ = 0 then 2 else if κ = 3 then 4 else 3
def ep11 (cA ν : Nat → Int32) (b a p : Nat) (w : Nat → Int) : Prop := w 0 + b = p ∧ w 1 = cV cA p ∧ w 2 + b = cE cA p ∧ ∃ E, eW cA ν b a E (cE cA p) ∧ w 3 + b = cE cA E ∧ w 4 = cV cA E
section CR7
variable {α : Type} {h0 h : xb_H} {ω : Nat → Int32} {rd op md cd nt im N M rc rs b e : Nat} {rw : Nat → Nat} {cb cA : Nat → Int32} {it n : Nat → Nat} {vs : Nat → Nat → Int64} {ν iv : Nat → Int32} {a : Nat} {l : Int} {bc bs : Nat} {Qt : String → xb_H → Nat → Nat → Prop} {R : Except (Nat × Nat) α} {K : Nat → Except (Nat × Nat) α}
theorem pBy_s {p : Nat} (h1 : p < e) : pBy e p = .ok (p + 1) := mkP_s (fun q q' a b => a.trans b.symm) rfl h1
theorem pBy_2 {p : Nat} (h1 : e ≤ p) : pBy e p = .error (2, e) := mkP_n (fun ⟨q, h3, h4⟩ => by omega)
theorem pSk_s {x p : Nat} (h1 : p + x ≤ e) : pSk e x p = .ok (p + x) := mkP_s (fun q q' a b => a.trans b.symm) rfl h1
theorem pSk_2 {x p : Nat} (h1 : e < p + x) : pSk e x p = .error (2, e) := mkP_n (fun ⟨q, h3, h4⟩ => by omega)
theorem gy_readImport {Qr : xb_H → Nat → Nat → Prop} (hT : rdT h0 rd op md rc rs b R Qt) (hG : rdg ω h0 h rd op md cd nt im N M rc rs rw cb it n vs ν iv a l bc bs) (hI : md_I N cb n vs ν iv a) (hZ : md_Z n iv) (hC : cx_ cA cb b N) (he : l + b = e) (hM : 2 * N + 20 ≤ M) (hM2 : M ≤ 1000000) (hR : R = (pEnt cA e 2 (b + a)).bind K)
    (hQ : ∀ (h' : xb_H) (it' n' : Nat → Nat) (vs' : Nat → Nat → Int64) (iv' : Nat → Int32) (q bc' bs' : Nat), a < q → rdg ω h0 h' rd op md cd nt im N M rc rs rw cb it' n' vs' ν iv' q l bc' bs' → md_I N cb n' vs' ν iv' q → md_Z n' iv' → (∃ (κ : Nat) (n1 : Nat → Nat) (vs1 : Nat → Nat → Int64) (L1 L2 : List Int64), κ < 4 ∧ (ub cA (qN cA (qN cA (b + a)))).toInt = κ ∧ iv' = va_up iv κ (iv κ + 1) ∧ (iv κ + 1).toInt = (iv κ).toInt + 1 ∧ xr_A 1 n vs n1 vs1 L1 ∧ L1.length = 7 ∧ ep1 cA b (iv κ).toInt (b + a) (fun j => (L1.getD j 0).toInt) ∧ xr_A (2 + κ) n1 vs1 n' vs' L2 ∧ L2.length = imL κ ∧ epI cA b κ (b + a) (fun j => (L2.getD j 0).toInt)) → R = K (b + q) → Qr h' bc' bs') : w_Reader_readImport rd h bc bs Qr Qt := by
  unfold w_Reader_readImport w_Reader_readImport_L254
  have hal := hG.al
  have hn1 := hI.nk (k := 1) (by omega)
  have hn2 := hI.nk (k := 2) (by omega)
  have hn3 := hI.nk (k := 3) (by omega)
  have hn4 := hI.nk (k := 4) (by omega)
  have hn5 := hI.nk (k := 5) (by omega)
  have u3 : ∀ p, (¬ ub cA p < 0 ∧ ub cA p ≤ 3) → (ub cA p).toInt ≤ 3 := fun p h9 => by
    have := h9.2
    rw [z_le] at this
    exact this
  have iq : ∀ (p : Nat) (c : Int32), ub cA p = c ↔ (ub cA p).toInt = c.toInt := fun p c => z_eq
  refine ⟨hG.krd, fun v2 e2 => gy_readName (K := fun q1 => ((pNm cA e q1).bind (fun q2 => (pBy e q2).bind (fun _ => if ub cA q2 = 0 then pCx cA e (q2 + 1) else if ub cA q2 = 1 then pTab cA e (q2 + 1) else if ub cA q2 = 2 then pLim cA e (q2 + 1) else if ub cA q2 = 3 then pVar cA e (q2 + 1) else .error (5, q2)))).bind K) hT hG hC he (by rw [hR]; exact exA) (fun r4 h3 q3 b0 b2 b3 b4 b5 R1 hG3 _ v5 e5 => gy_readName (K := fun q2 => ((pBy e q2).bind (fun _ => if ub cA q2 = 0 then pCx cA e (q2 + 1) else if ub cA q2 = 1 then pTab cA e (q2 + 1) else if ub cA q2 = 2 then pLim cA e (q2 + 1) else if ub cA q2 = 3 then pVar cA e (q2 + 1) else .error (5, q2))).bind K) hT hG3 hC he (by rw [R1, exA]) (fun r7 h6 q6 c0 c2 c3 c4 c5 R2 hG6 _ v8 e8 => gy_byteUpTo (K := fun _ => R) hT hG6 hC he (mrR (fun h9 => by rw [R2, pBy_2 h9]; rfl) (fun h9 h8 => ?_)) (fun h9 d2 d3 _ hG9 _ => ?_)))⟩
  · have hu := ub_r (cb := cA) (p := b + q6)
    have h7 : ¬ (ub cA (b + q6)).toInt ≤ 3 := fun h6 => h8 ⟨by rw [z_lt]; simp only [Int32.reduceToInt]; omega, by rw [z_le]; exact h6⟩
    rw [R2, pBy_s h9]
    show Except.bind (if ub cA (b + q6) = 0 then _ else _) K = _
    rw [if_neg (by rw [iq]; simp only [Int32.reduceToInt]; omega), if_neg (by rw [iq]; simp only [Int32.reduceToInt]; omega), if_neg (by rw [iq]; simp only [Int32.reduceToInt]; omega), if_neg (by rw [iq]; simp only [Int32.reduceToInt]; omega)]
    rfl
  have R3 : R = (if ub cA (b + q6) = 0 then pCx cA e (b + q6 + 1) else if ub cA (b + q6) = 1 then pTab cA e (b + q6 + 1) else if ub cA (b + q6) = 2 then pLim cA e (b + q6 + 1) else if ub cA (b + q6) = 3 then pVar cA e (b + q6 + 1) else .error (5, b + q6)).bind K := by
    rw [R2, pBy_s (by have := hG6.al; omega)]
    rfl
  obtain ⟨r10, hr10⟩ : ∃ r10, r10 = ub cA (b + q6) := ⟨_, rfl⟩
  rw [← hr10] at d2 R3 ⊢
  rw [z_le] at d2
  simp only [Int32.reduceToInt] at d2
  have d1 : 0 ≤ r10.toInt := by rw [hr10]; exact (ub_r (cb := cA) (p := b + q6)).1
  have b1 : 0 ≤ r4.toInt := by omega
  have c1 : 0 ≤ r7.toInt := by omega
  have kpe : qN cA (qN cA (b + a)) = b + q6 := by rw [b4, c4]
  have ev2 : v2.toInt = a := by rw [e2]; exact hG.iat
  have ev5 : v5.toInt = q3 - r4.toInt := by rw [e5, z_sub, hG3.iat]; omega
  have ev8 : v8.toInt = q6 - r7.toInt := by rw [e8, z_sub, hG6.iat]; omega
  have him := hG.1.2.2.2.2.2.2.1
  obtain ⟨κ, hκ⟩ : ∃ κ : Nat, r10.toInt = κ := ⟨r10.toInt.toNat, by omega⟩
  have hκ4 : κ < 4 := by omega
  have cκ : r10.toNatClampNeg = κ := by rw [z_cl, hκ]; omega
  refine ⟨md, hG9.rmd, hG9.kmd, rw 1, hG9.row (by omega), hG9.krow (by omega), hG9.addA (by omega) (xr_A.rf 1 n vs) (by simp; omega) hM2 (fun h10 it10 n10 vs10 bc10 bs10 hG10 hA10 _ => ?_)⟩
  refine ⟨md, hG10.rmd, hG10.kmd, rw 1, hG10.row (by omega), hG10.krow (by omega), hG10.addA (by omega) hA10 (by simp; omega) hM2 (fun h11 it11 n11 vs11 bc11 bs11 hG11 hA11 _ => ?_)⟩
  have im11 := hG11.1.2.2.2.2.2.2.1
  refine ⟨md, hG11.rmd, hG11.kmd, rw 1, hG11.row (by omega), md, hG11.rmd, hG11.kmd, im, im11.1, im11.2.1, by rw [z_in, hκ, im11.2.2.1]; omega, hG11.krow (by omega), ?_⟩
  rw [cκ, im11.2.2.2.2]
  refine hG11.addA (by omega) hA11 (by simp; omega) hM2 (fun h12 it12 n12 vs12 bc12 bs12 hG12 hA12 _ => ?_)
  refine ⟨md, hG12.rmd, hG12.kmd, rw 1, hG12.row (by omega), hG12.krow (by omega), hG12.addA (by omega) hA12 (by simp; omega) hM2 (fun h13 it13 n13 vs13 bc13 bs13 hG13 hA13 _ => ?_)⟩
  refine ⟨md, hG13.rmd, hG13.kmd, rw 1, hG13.row (by omega), hG13.krow (by omega), hG13.addA (by omega) hA13 (by simp; omega) hM2 (fun h14 it14 n14 vs14 bc14 bs14 hG14 hA14 _ => ?_)⟩
  refine ⟨md, hG14.rmd, hG14.kmd, rw 1, hG14.row (by omega), hG14.krow (by omega), hG14.addA (by omega) hA14 (by simp; omega) hM2 (fun h15 it15 n15 vs15 bc15 bs15 hG15 hA15 _ => ?_)⟩
  refine ⟨md, hG15.rmd, hG15.kmd, rw 1, hG15.row (by omega), hG15.krow (by omega), hG15.addA (by omega) hA15 (by simp; omega) hM2 (fun h16 it16 n16 vs16 bc16 bs16 hG16 hA16 _ => ?_)⟩
  have im16 := hG16.1.2.2.2.2.2.2.1
  refine ⟨md, hG16.rmd, hG16.kmd, im, im16.1, im16.2.1, by rw [z_in, hκ, im16.2.2.1]; omega, by rw [z_in, hκ, im16.2.2.1]; omega, fun h64 e64 => ?_⟩
  rw [im16.2.2.2.2] at e64
  subst e64
  have hI1 := hI.cnt κ hκ4
  have hcnt : (mcnt (vs 1) κ (n 1 / 7) : Int) ≤ n 1 / 7 := by
    have key : ∀ m, mcnt (vs 1) κ m ≤ m := by
      intro m
      induction m with
      | zero => exact Nat.le_refl 0
      | succ m ih => unfold mcnt; split <;> omega
    have := key (n 1 / 7)
    omega
  have hiv : (iv κ + 1).toInt = (iv κ).toInt + 1 := by
    rw [z_add]
    simp only [Int32.reduceToInt]
    omega
  have hG17 := hG16.imI (k := κ) (v := iv κ + 1)
  have hI17 : ∀ q, q6 + 1 < q → md_K N cb n16 vs16 ν (va_up iv κ (iv κ + 1)) a q := by
    intro q hq
    refine (hI.at (a' := q) (by omega)).imp (κ := κ) hA16 (by simp) (by omega) (by have := hZ.2.2.2; omega) hκ4 ?_ (by rw [xh_up, if_pos rfl]; exact hiv) (fun j _ hj => by rw [xh_up, if_neg hj]) ?_
    · simp only [List.nil_append, List.cons_append, List.getD_cons_zero, List.getD_cons_succ, Z_of32]
      exact hκ
    · unfold mp1
      simp only [List.nil_append, List.cons_append, List.getD_cons_zero, List.getD_cons_succ, Z_of32, ev2, ev5, ev8, hκ]
      exact ⟨by omega, by omega, by omega, by omega, hI1, by omega, b1, by omega, by omega, c1, by omega⟩
  have hep1 : ep1 cA b (iv κ).toInt (b + a) (fun j => (([] ++ [Int32.toInt64 v2] ++ [Int32.toInt64 r10] ++ [Int32.toInt64 (iv κ)] ++ [Int32.toInt64 v5] ++ [Int32.toInt64 r4] ++ [Int32.toInt64 v8] ++ [Int32.toInt64 r7]).getD j 0).toInt) := by
    unfold ep1
    simp only [List.nil_append, List.cons_append, List.getD_cons_zero, List.getD_cons_succ, Z_of32, ev2, ev5, ev8]
    rw [kpe, ← hr10, b4]
    exact ⟨by omega, rfl, by first | trivial | rfl, by omega, b0, by omega, c0⟩
  have hkk : (ub cA (qN cA (qN cA (b + a)))).toInt = κ := by rw [kpe, ← hr10]; exact hκ
  have hn16 : ∀ j, j ≠ 1 → n16 j = n j := fun j hj => (hA16.2.1 j hj).1
  have m2 := hn16 2 (by omega)
  have m3 := hn16 3 (by omega)
  have m4 := hn16 4 (by omega)
  have m5 := hn16 5 (by omega)
  obtain ⟨z0, z1, z2, z3⟩ := hZ
  refine ⟨fun k0 => ⟨fun k1 => ⟨fun k2 => ?_, fun k2 => ?_⟩, fun k1 => ?_⟩, fun k0 => ?_⟩
  · rw [z_eq, hκ] at k0 k1 k2
    simp only [Int32.reduceToInt] at k0 k1 k2
    obtain rfl : κ = 3 := by omega
    refine gy_readVariableType (K := K) hT hG17 hC he (by omega) hM2 ev2 (by rw [R3, if_neg (by rw [z_eq, hκ]; decide), if_neg (by rw [z_eq, hκ]; decide), if_neg (by rw [z_eq, hκ]; decide), if_pos (by rw [z_eq, hκ]; rfl)]; rfl) (fun h18 it18 n18 vs18 bc18 bs18 t c f1 f2 f3 f4 hG18 hA18 f5 f6 R4 _ => ⟨md, hG18.rmd, hG18.kmd, rw 5, hG18.row (by omega), hG18.krow (by omega), hG18.addA (by omega) hA18 (by simp; omega) hM2 (fun h19 it19 n19 vs19 bc19 bs19 hG19 hA19 _ => ?_)⟩)
    refine hQ h19 it19 n19 vs19 _ (q6 + 1 + 2) bc19 bs19 (by omega) hG19 ((hI17 (q6 + 1 + 2) (by omega)).a5 hA19 (by simp) (by omega) (by rw [xh_up, if_pos rfl, hiv, m5]; omega) (fun en => ?_)).cl ⟨?_, ?_, ?_, ?_⟩ ⟨3, n16, vs16, _, _, hκ4, hkk, rfl, hiv, hA16, by simp, hep1, hA19, by simp [imL], fun h => by omega, fun h => by omega, fun h => by omega, fun _ => ?_⟩ R4
    · unfold mp5
      simp only [List.nil_append, List.cons_append, List.getD_cons_zero, List.getD_cons_succ, Z_of32, ev2, Int64.reduceToInt]
      refine ⟨by omega, by omega, f2, f3, f4, fun _ => trivial, fun e => ?_⟩
      rw [xh_up, if_pos rfl, hiv] at e
      omega
    · rw [xh_up, if_neg (by omega), (hA19.2.1 2 (by omega)).1, m2]; exact z0
    · rw [xh_up, if_neg (by omega), (hA19.2.1 3 (by omega)).1, m3]; exact z1
    · rw [xh_up, if_neg (by omega), (hA19.2.1 4 (by omega)).1, m4]; exact z2
    · rw [xh_up, if_pos rfl, hA19.1, m5, hiv]
      simp
      omega
    · simp only [List.nil_append, List.cons_append, List.getD_cons_zero, List.getD_cons_succ, Z_of32, ev2, f5, f6, kpe]
      exact ⟨by omega, rfl, rfl, rfl⟩
  · rw [z_eq, hκ] at k2
    simp only [Int32.reduceToInt] at k2
    obtain rfl : κ = 2 := by omega
    refine ⟨md, hG17.rmd, hG17.kmd, rw 4, hG17.row (by omega), gy_readLimits (K := K) (p := a) hT hG17 hC he (by omega) (by omega) hM2 ev2 (by omega) (by rw [R3, if_neg (by rw [z_eq, hκ]; decide), if_neg (by rw [z_eq, hκ]; decide), if_pos (by rw [z_eq, hκ]; rfl)]; rfl) (fun h' it' n' vs' q bc' bs' L f1 f2 hG18 hA hL hp hE R4 _ => ?_)⟩
    refine hQ h' it' n' vs' _ q bc' bs' (by omega) hG18 ((hI17 q (by omega)).a4 hA hL (by omega) (hp _)).cl ⟨?_, ?_, ?_, ?_⟩ ⟨2, n16, vs16, _, L, hκ4, hkk, rfl, hiv, hA16, by simp, hep1, hA, hL, fun h => by omega, fun h => by omega, fun _ => by rw [kpe]; exact hE, fun h => by omega⟩ R4
    · rw [xh_up, if_neg (by omega), (hA.2.1 2 (by omega)).1, m2]; exact z0
    · rw [xh_up, if_neg (by omega), (hA.2.1 3 (by omega)).1, m3]; exact z1
    · rw [xh_up, if_pos rfl, hA.1, hL, m4, hiv]
      omega
    · rw [xh_up, if_neg (by omega), (hA.2.1 5 (by omega)).1, m5]; exact z3
  · rw [z_eq, hκ] at k1
    simp only [Int32.reduceToInt] at k1
    obtain rfl : κ = 1 := by omega
    refine gy_readMark (K := fun q => (pLim cA e q).bind K) hT hG17 hC he (by decide) (by rw [R3, if_neg (by rw [z_eq, hκ]; decide), if_pos (by rw [z_eq, hκ]; rfl)]; exact exA) (fun h18 f0 R4 hG18 _ => ⟨md, hG18.rmd, hG18.kmd, rw 3, hG18.row (by omega), gy_readLimits (p := a) hT hG18 hC he (by omega) (by omega) hM2 ev2 (by omega) R4 (fun h' it' n' vs' q bc' bs' L f1 f2 hG19 hA hL hp hE R5 _ => ?_)⟩)
    refine hQ h' it' n' vs' _ q bc' bs' (by omega) hG19 ((hI17 q (by omega)).a3 hA hL (by omega) (hp _)).cl ⟨?_, ?_, ?_, ?_⟩ ⟨1, n16, vs16, _, L, hκ4, hkk, rfl, hiv, hA16, by simp, hep1, hA, hL, fun h => by omega, fun _ => by rw [kpe]; exact hE, fun h => by omega, fun h => by omega⟩ R5
    · rw [xh_up, if_neg (by omega), (hA.2.1 2 (by omega)).1, m2]; exact z0
    · rw [xh_up, if_pos rfl, hA.1, hL, m3, hiv]
      omega
    · rw [xh_up, if_neg (by omega), (hA.2.1 4 (by omega)).1, m4]; exact z2
    · rw [xh_up, if_neg (by omega), (hA.2.1 5 (by omega)).1, m5]; exact z3
  · rw [z_eq, hκ] at k0
    simp only [Int32.reduceToInt] at k0
    obtain rfl : κ = 0 := by omega
    refine ⟨md, hG17.rmd, hG17.kmd, rw 2, hG17.row (by omega), hG17.krow (by omega), hG17.addA (by omega) (xr_A.rf 2 n16 vs16) (by simp; omega) hM2 (fun h18 it18 n18 vs18 bc18 bs18 hG18 hA18 _ => ?_)⟩
    refine ⟨md, hG18.rmd, hG18.kmd, rw 2, hG18.row (by omega), gy_count (K := K) hT hG18 hC he (by rw [R3, if_pos (by rw [z_eq, hκ]; rfl)]; rfl) (fun r98 h19 q19 f1 f2 f3 f4 f5 R4 hG19 _ => ⟨hG19.krow (by omega), hG19.addA (by omega) hA18 (by simp; omega) hM2 (fun h20 it20 n20 vs20 bc20 bs20 hG20 hA _ => ?_)⟩)⟩
    refine hQ h20 it20 n20 vs20 _ q19 bc20 bs20 (by omega) hG20 ((hI17 q19 (by omega)).a2 hA (by simp) (by omega) ?_).cl ⟨?_, ?_, ?_, ?_⟩ ⟨0, n16, vs16, _, _, hκ4, hkk, rfl, hiv, hA16, by simp, hep1, hA, by simp [imL], fun _ => ?_, fun h => by omega, fun h => by omega, fun h => by omega⟩ R4
    · unfold mp2
      simp only [List.nil_append, List.cons_append, List.getD_cons_zero, List.getD_cons_succ, Z_of32, Z_low, ev2]
      exact ⟨by omega, by omega, by omega, by omega⟩
    · rw [xh_up, if_pos rfl, hA.1, m2, hiv]
      simp
      omega
    · rw [xh_up, if_neg (by omega), (hA.2.1 3 (by omega)).1, m3]; exact z1
    · rw [xh_up, if_neg (by omega), (hA.2.1 4 (by omega)).1, m4]; exact z2
    · rw [xh_up, if_neg (by omega), (hA.2.1 5 (by omega)).1, m5]; exact z3
    · simp only [List.nil_append, List.cons_append, List.getD_cons_zero, List.getD_cons_succ, Z_of32, ev2]
      rw [u64 f4, kpe]
      exact ⟨by omega, rfl⟩
theorem gy_readData {Qr : xb_H → Nat → Nat → Prop} (hT : rdT h0 rd op md rc rs b R Qt) (hG : rdg ω h0 h rd op md cd nt im N M rc rs rw cb it n vs ν iv a l bc bs) (hI : md_I N cb n vs ν iv a) (hC : cx_ cA cb b N) (he : l + b = e) (hM : 2 * N + 20 ≤ M) (hM2 : M ≤ 1000000) (hR : R = (pEnt cA e 11 (b + a)).bind K)
    (hQ : ∀ (h' : xb_H) (it' n' : Nat → Nat) (vs' : Nat → Nat → Int64) (ν' : Nat → Int32) (L : List Int64) (q bc' bs' : Nat), a < q → rdg ω h0 h' rd op md cd nt im N M rc rs rw cb it' n' vs' ν' iv q l bc' bs' → md_I N cb n' vs' ν' iv q → (∀ j, n j ≤ n' j) → xr_A 11 n vs n' vs' L → L.length = 5 → (∀ j, j < a → ν' j = ν j) → ep11 cA ν' b q (b + a) (fun j => (L.getD j 0).toInt) → R = K (b + q) → Qr h' bc' bs') : w_Reader_readData rd h bc bs Qr Qt := by
  unfold w_Reader_readData
  have hal := hG.al
  have hn := hI.nk (k := 11) (by omega)
  have h8 := hI.ge8
  refine ⟨hG.krd, md, hG.rmd, hG.kmd, rw 11, hG.row (by omega), hG.krow (by omega), hG.addA (by omega) (xr_A.rf 11 n vs) (by simp; omega) hM2 (fun h1 it1 n1 vs1 bc1 bs1 hG1 hA1 _ => ?_)⟩
  refine ⟨md, hG1.rmd, hG1.kmd, rw 11, hG1.row (by omega), gy_count (K := fun q => ((pExp cA e q).bind (fun q2 => (pCx cA e q2).bind (fun q3 => pSk e (cV cA q2) q3))).bind K) hT hG1 hC he (by rw [hR]; exact exA) (fun r12 h2 q2 b1 b2 b3 b4 b5 R1 hG2 _ => ⟨hG2.krow (by omega), hG2.addA (by omega) hA1 (by simp; omega) hM2 (fun h3 it3 n3 vs3 bc3 bs3 hG3 hA3 _ => ?_)⟩)⟩
  refine ⟨md, hG3.rmd, hG3.kmd, rw 11, hG3.row (by omega), hG3.krow (by omega), hG3.addA (by omega) hA3 (by simp; omega) hM2 (fun h4 it4 n4 vs4 bc4 bs4 hG4 hA4 _ => ?_)⟩
  refine gy_readExpression (K := fun q2 => ((pCx cA e q2).bind (fun q3 => pSk e (cV cA q2) q3)).bind K) hT hG4 hC he (by omega) (fun j hj => hI.z j (by omega)) (by rw [R1, exA]) (fun h5 ν' q5 c1 c2 c3 c4 c5 c6 R2 hG5 _ => gy_count (K := fun q3 => (pSk e (cV cA (b + q5)) q3).bind K) hT hG5 hC he (by rw [R2, exA]) (fun r25 h6 q6 d1 d2 d3 d4 d5 R3 hG6 _ => ?_))
  obtain ⟨z1, z2⟩ := (hG6.q hC he).sz d4
  have fl : e < b + q6 + cV cA (b + q5) → w_Reader_readData_L75 Qr Qt rd r25 h6 bc4 bs4 := fun h9 => ⟨hG6.krd, md, hG6.rmd, hG6.kmd, y_fail hT hG6.X hG6.c hG6.b (by rw [R3, pSk_2 h9]; rfl) rfl (by rw [hG6.ilim]; exact he)⟩
  have r := z_rg r25
  refine ⟨fun h9 => fl (z1 h9), fun e1 => ⟨fun e2 => ?_, fun e2 => fl (by rw [(z2 e1).1] at e2; omega)⟩⟩
  have hsz := (z2 e1).2
  have hle := (z2 e1).1.mp e2
  rw [z_lt] at e1
  rw [z_le, z_sub, hG6.ilim, hG6.iat] at e2
  simp only [Int32.reduceToInt] at e1
  unfold w_Reader_readData_L87
  refine ⟨hG6.krd, md, hG6.rmd, hG6.kmd, rw 11, hG6.row (by omega), hG6.krow (by omega), hG6.addA (by omega) hA4 (by simp; omega) hM2 (fun h7 it7 n7 vs7 bc7 bs7 hG7 hA7 _ => ?_)⟩
  refine ⟨md, hG7.rmd, hG7.kmd, rw 11, hG7.row (by omega), hG7.krow (by omega), hG7.addA (by omega) hA7 (by simp; omega) hM2 (fun h8 it8 n8 vs8 bc8 bs8 hG8 hA8 _ h14 e14 => ?_)⟩
  have e9 : (xb_i h8 rd 3 + r25).toInt = (q6 + r25.toInt.toNat : Nat) := by rw [z_add, hG8.iat]; omega
  subst e14
  refine hQ _ it8 n8 vs8 ν' _ _ bc8 bs8 (by omega) (hG8.at e9 (by omega)) ((hI.ex (a' := q6 + r25.toInt.toNat) (ν' := ν') (by omega) (fun j hj => c3 j (by omega)) (fun j hj => c4 j (by omega))).x11 (p := q2) (e := q5) (b' := q6 + r25.toInt.toNat) hA8 (by simp) (by omega) (by omega) c1 (by omega) (Nat.le_refl _) ?_ c5 (fun en hm => ?_)) (fun j => ?_) hA8 (by simp) (fun j hj => c3 j (by omega)) ?_ (by rw [R3, pSk_s hle, show b + (q6 + r25.toInt.toNat) = b + q6 + cV cA (b + q5) by omega]; rfl)
  · simp only [List.nil_append, List.cons_append, List.getD_cons_zero, List.getD_cons_succ, Z_of32, hG3.iat]
  · unfold mp11
    simp only [List.nil_append, List.cons_append, List.getD_cons_zero, List.getD_cons_succ, Z_of32, Z_low, hG.iat, hG3.iat, hG6.iat]
    exact ⟨by omega, by omega, by omega, by omega, hm, by omega, by omega, by omega⟩
  · by_cases e : j = 11
    · rw [e, hA8.1]
      omega
    · rw [(hA8.2.1 j e).1]
      omega
  · unfold ep11
    simp only [List.nil_append, List.cons_append, List.getD_cons_zero, List.getD_cons_succ, Z_of32, hG.iat, hG3.iat, hG6.iat]
    rw [u64 b4, b3]
    exact ⟨by omega, rfl, by omega, b + q5, ⟨by omega, by omega, c6⟩, by rw [d3]; omega, hsz⟩
end CR7
