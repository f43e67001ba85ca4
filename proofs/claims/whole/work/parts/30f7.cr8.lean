-- equality: the class's reader, exact: elements, bodies

/-- lines of the row 8: functions that are listed from p on -/
def lst8 (cA : Nat → Int32) (b n0 p cnt : Nat) (v : Nat → Int64) : Prop := ∀ i, i < cnt → (v (n0 + 2 * i)).toInt + b = itE cA i p ∧ (v (n0 + 2 * i + 1)).toInt = cV cA (itE cA i p)
/-- lines of the row 10: groups of locals from p on -/
def grp10 (cA : Nat → Int32) (n0 p cnt : Nat) (v : Nat → Int64) : Prop := ∀ i, i < cnt → (v (n0 + 2 * i)).toInt = cV cA (lgE cA i p) ∧ (v (n0 + 2 * i + 1)).toInt = (ub cA (cE cA (lgE cA i p))).toInt
/-- a body's line: its instructions, its locals, its groups -/
def ep9 (cA : Nat → Int32) (b f p : Nat) (w : Nat → Int) : Prop := w 0 + b = lgE cA (cV cA (cE cA p)) (cE cA (cE cA p)) ∧ w 1 = (lgf cA (cV cA (cE cA p)) (cE cA (cE cA p))).length ∧ w 2 = f ∧ w 3 = cV cA (cE cA p) ∧ w 4 = 0
section CR8
variable {α : Type} {h0 h : xb_H} {ω : Nat → Int32} {rd op md cd nt im N M rc rs b e : Nat} {rw : Nat → Nat} {cb cA : Nat → Int32} {it n : Nat → Nat} {vs : Nat → Nat → Int64} {ν iv : Nat → Int32} {a : Nat} {l : Int} {bc bs : Nat} {Qt : String → xb_H → Nat → Nat → Prop} {R : Except (Nat × Nat) α} {K : Nat → Except (Nat × Nat) α}
theorem lgE_s : ∀ {k p : Nat}, lgE cA (k + 1) p = cE cA (lgE cA k p) + 1
  | 0, p => rfl
  | k + 1, p => by
    show lgE cA (k + 1) (cE cA p + 1) = _
    rw [lgE_s]
    rfl
theorem lgf_e : ∀ {k p : Nat}, (lgf cA (k + 1) p).length = (lgf cA k p).length + cV cA (lgE cA k p)
  | 0, p => by
    show (List.replicate (cV cA p) _ ++ []).length = _
    simp [lgf, lgE]
  | k + 1, p => by
    rw [lgf_s, List.length_append, lgf_e, lgf_s (k := k), List.length_append]
    show _ = _ + cV cA (lgE cA k (cE cA p + 1))
    omega
theorem itE_s : ∀ {k p : Nat}, itE cA (k + 1) p = cE cA (itE cA k p)
  | 0, p => rfl
  | k + 1, p => by
    show itE cA (k + 1) (cE cA p) = _
    rw [itE_s]
    rfl
section
variable {m k p c : Nat}
theorem pLg_0 : pLg cA e m 0 p c = .ok p := by
  cases m <;> rfl
theorem pLg_1 : pLg cA e (m + 1) (k + 1) p c = (pCx cA e p).bind (fun p1 => if 1000 < c + cV cA p then .error (9, p) else (pVT cA e p1).bind (fun q => pLg cA e m k q (c + cV cA p))) := rfl
end
theorem gy_readElementsL {Qr : xb_H → Nat → Nat → Prop} {x1 : Int64} {n0 nS : Nat → Nat} {q0 b0 p p1 : Nat} {L : Int64} (hC : cx_ cA cb b N) (he : l + b = e) (hcL : rC cA p = some (p1, L)) (hxL : x1.toInt = (L.toInt.toNat : Nat)) (hR : R = (pRw cA e 0 p).bind K) (hT : rdT h0 rd op md rc rs b R Qt) (hM : 2 * N + 20 ≤ M) (hM2 : M ≤ 1000000) (hx1 : x1.toInt < 4294967296)
    (hQ : ∀ (h' : xb_H) (it' n' : Nat → Nat) (vs' : Nat → Nat → Int64) (q bc' bs' : Nat), q0 ≤ q → rdg ω h0 h' rd op md cd nt im N M rc rs rw cb it' n' vs' ν iv q l bc' bs' → md_K N cb (va_up n' 7 (n0 7)) vs' ν iv b0 q → n' 7 = n0 7 + 5 → (n' 8 : Int) = n0 8 + 2 * x1.toInt → (∀ j, j ≠ 7 → n0 j ≤ n' j) → vs' 7 = vs 7 → (∀ j, j ≠ 8 → n' j = nS j ∧ vs' j = vs j) → (∀ i, i < n0 8 → vs' 8 i = vs 8 i) → lst8 cA b (n0 8) p1 L.toInt.toNat (vs' 8) → R = K (b + q) → Qr h' bc' bs') :
    ∀ (m : Nat) (x3 : Int64) (h : xb_H) (it n : Nat → Nat) (vs' : Nat → Nat → Int64) (a bc bs : Nat), rdg ω h0 h rd op md cd nt im N M rc rs rw cb it n vs' ν iv a l bc bs → q0 ≤ a → md_K N cb (va_up n 7 (n0 7)) vs' ν iv b0 a → n 7 = n0 7 + 5 → 0 ≤ x3.toInt → x3.toInt ≤ x1.toInt → (n 8 : Int) = n0 8 + 2 * x3.toInt → (∀ j, j ≠ 7 → n0 j ≤ n j) → vs' 7 = vs 7 → l - a ≤ m → (∀ j, j ≠ 8 → n j = nS j ∧ vs' j = vs j) → (∀ i, i < n0 8 → vs' 8 i = vs 8 i) → lst8 cA b (n0 8) p1 x3.toInt.toNat (vs' 8) → cks cA x3.toInt.toNat p1 = some (b + a) → w_Reader_readElements_L97 Qr Qt (m + 1) rd x1 x3 h bc bs
  | m, x3, h, it, n, vs', a, bc, bs, hG, hq0, hI, h7, hx0, hx3, h8, hmon, hv7, hm, hoth, hold, hls, hck => by
    have hal := hG.al
    have hn8 := hI.nk (k := 8) (by omega)
    rw [xh_up, if_neg (by omega)] at hn8
    unfold w_Reader_readElements_L97
    refine ⟨fun eX => ?_, fun eX => ⟨hG.krd, md, hG.rmd, hG.kmd, rw 8, hG.row (by omega), hG.krow (by omega), hG.addA (by omega) (xr_A.rf 8 n vs') (by simp; omega) hM2 (fun h1 it1 n1 vs1 bc1 bs1 hG1 hA1 _ => ?_)⟩⟩
    · rw [Z_le] at eX
      have ek : x3.toInt.toNat = L.toInt.toNat := by omega
      rw [ek] at hls hck
      exact hQ h it n vs' a bc bs hq0 hG hI h7 (by omega) hmon hv7 hoth hold hls (by rw [hR, pRw_s hcL ⟨fun _ => hck, fun h9 => absurd rfl h9⟩ (by omega)]; rfl)
    · rw [Z_le] at eX
      refine ⟨md, hG1.rmd, hG1.kmd, rw 8, hG1.row (by omega), gy_count (K := fun _ => R) hT hG1 hC he (cnR (fun h9 => by
        have hp1 : p1 ≤ b + a := by have := cks_b hck; omega
        rw [hR, pRw_m hcL (by omega)]
        · rw [show e - p1 + 1 = (e - p1 - x3.toInt.toNat + 1) + x3.toInt.toNat by have := cks_b hck; omega, fRow_k hck (by omega), fRow_cn rfl h9]
          rfl
        · rintro ⟨q, a1, a2⟩
          obtain ⟨pk, g1, g2⟩ := cks_pre (a1.1 rfl) (show x3.toInt.toNat ≤ L.toInt.toNat by omega)
          rw [hck] at g1
          simp only [Option.some.injEq] at g1
          subst g1
          rw [show L.toInt.toNat - x3.toInt.toNat = (L.toInt.toNat - x3.toInt.toNat - 1) + 1 by omega] at g2
          unfold cks at g2
          split at g2
          · rename_i a' x' e9
            have := cks_b g2
            exact h9 ⟨a', x', e9, by omega⟩
          · cases g2)) (fun r h2 q2 b1 b2 b3 b4 ⟨xr, b5⟩ _ hG2 _ => ⟨hG2.krow (by omega), hG2.addA (by omega) hA1 (by simp; omega) hM2 (fun h3 it3 n3 vs3 bc3 bs3 hG3 hA3 _ v17 e17 => ?_)⟩)⟩
      have e3 : v17.toInt = x3.toInt + 1 := by
        rw [e17, Z_add]
        simp only [Int64.reduceToInt]
        omega
      have hA4 : xr_A 8 (va_up n 7 (n0 7)) vs' (va_up n3 7 (n0 7)) vs3 ([] ++ [Int32.toInt64 (xb_i h rd 3)] ++ [r.toInt64 &&& 4294967295]) := by
        obtain ⟨a1, a2, a3, a4⟩ := hA3
        refine ⟨by rw [xh_up, if_neg (by omega), xh_up, if_neg (by omega)]; exact a1, fun j hj => ?_, fun i hi => a3 i (by rw [xh_up, if_neg (by omega)] at hi; exact hi), fun i hi => by rw [xh_up, if_neg (by omega)]; exact a4 i hi⟩
        refine ⟨?_, (a2 j hj).2⟩
        rw [xh_up, xh_up]
        split
        · rfl
        · exact (a2 j hj).1
      match m, hm with
      | 0, hm => omega
      | m + 1, hm =>
        refine gy_readElementsL hC he hcL hxL hR hT hM hM2 hx1 hQ m v17 h3 it3 n3 vs3 q2 bc3 bs3 hG3 (by omega) ((hI.at (a' := q2) (by omega)).a8 hA4 (by simp) (by rw [xh_up, if_neg (by omega)]; omega) ?_) (by rw [(hA3.2.1 7 (by omega)).1]; exact h7) (by omega) (by omega) (by rw [hA3.1]; simp; omega) (fun j hj => ?_) (by rw [(hA3.2.1 7 (by omega)).2]; exact hv7) (by omega) (fun j hj => ⟨by rw [(hA3.2.1 j hj).1]; exact (hoth j hj).1, by rw [(hA3.2.1 j hj).2]; exact (hoth j hj).2⟩) (fun i hi => by rw [hA3.2.2.1 i (by omega)]; exact hold i hi) (fun i hi => ?_) (by rw [e3, show (x3.toInt + 1).toNat = x3.toInt.toNat + 1 by omega]; exact cks_nx hck b5)
        · unfold mp2
          simp only [List.nil_append, List.cons_append, List.getD_cons_zero, List.getD_cons_succ, Z_of32, Z_low, hG.iat]
          exact ⟨by omega, by omega, by omega, by omega⟩
        · have := hmon j hj
          by_cases e8 : j = 8
          · subst e8
            rw [hA3.1]
            omega
          · rw [(hA3.2.1 j e8).1]
            exact this
        · rw [e3, show (x3.toInt + 1).toNat = x3.toInt.toNat + 1 by omega] at hi
          rcases Nat.lt_or_ge i x3.toInt.toNat with h9 | h9
          · rw [hA3.2.2.1 _ (by omega), hA3.2.2.1 _ (by omega)]
            exact hls i h9
          · have ei : i = x3.toInt.toNat := by omega
            have w0 := hA3.2.2.2 0 (by simp)
            have w1 := hA3.2.2.2 1 (by simp)
            simp only [List.nil_append, List.cons_append, List.getD_cons_zero, List.getD_cons_succ] at w0 w1
            rw [show n0 8 + 2 * i = n 8 + 0 by omega, w0, show n 8 + 0 + 1 = n 8 + 1 by omega, w1, Z_of32, hG.iat, u64 b4, ei, itE_c hck]
            exact ⟨by omega, rfl⟩
theorem gy_readElements {Qr : xb_H → Nat → Nat → Prop} (hT : rdT h0 rd op md rc rs b R Qt) (hG : rdg ω h0 h rd op md cd nt im N M rc rs rw cb it n vs ν iv a l bc bs) (hI : md_I N cb n vs ν iv a) (hC : cx_ cA cb b N) (he : l + b = e) (hM : 2 * N + 20 ≤ M) (hM2 : M ≤ 1000000) (hR : R = (pEnt cA e 9 (b + a)).bind K)
    (hQ : ∀ (h' : xb_H) (it' n' : Nat → Nat) (vs' : Nat → Nat → Int64) (ν' : Nat → Int32) (q bc' bs' E : Nat), a < q → rdg ω h0 h' rd op md cd nt im N M rc rs rw cb it' n' vs' ν' iv q l bc' bs' → md_I N cb n' vs' ν' iv q → (∀ j, n j ≤ n' j) → (∀ j, j < a → ν' j = ν j) → n' 7 = n 7 + 5 → n' 8 = n 8 + 2 * cV cA E → (∀ j, j ≠ 7 → j ≠ 8 → n' j = n j ∧ vs' j = vs j) → (∀ i, i < n 7 → vs' 7 i = vs 7 i) → (∀ i, i < n 8 → vs' 8 i = vs 8 i) → eW cA ν' b q E (cE cA (b + a)) → ((vs' 7 (n 7)).toInt + b = (b + a : Nat) ∧ (vs' 7 (n 7 + 1)).toInt = cV cA (b + a) ∧ (vs' 7 (n 7 + 2)).toInt + b = cE cA (b + a) ∧ 2 * (vs' 7 (n 7 + 3)).toInt = n 8 ∧ (vs' 7 (n 7 + 4)).toInt = cV cA E) → lst8 cA b (n 8) (cE cA E) (cV cA E) (vs' 8) → R = K (b + q) → Qr h' bc' bs') : w_Reader_readElements rd h bc bs Qr Qt := by
  unfold w_Reader_readElements
  have hal := hG.al
  have hn := hI.nk (k := 7) (by omega)
  have h8 := hI.ge8
  obtain ⟨⟨m8, hm8⟩, -⟩ := hI.d
  refine ⟨hG.krd, md, hG.rmd, hG.kmd, rw 7, hG.row (by omega), hG.krow (by omega), hG.addA (by omega) (xr_A.rf 7 n vs) (by simp; omega) hM2 (fun h1 it1 n1 vs1 bc1 bs1 hG1 hA1 _ => ?_)⟩
  refine ⟨md, hG1.rmd, hG1.kmd, rw 7, hG1.row (by omega), gy_count (K := fun q => ((pExp cA e q).bind (fun q2 => pRw cA e 0 q2)).bind K) hT hG1 hC he (by rw [hR]; exact exA) (fun r12 h2 q2 b1 b2 b3 b4 b5 R1 hG2 _ => ⟨hG2.krow (by omega), hG2.addA (by omega) hA1 (by simp; omega) hM2 (fun h3 it3 n3 vs3 bc3 bs3 hG3 hA3 _ => ?_)⟩)⟩
  refine ⟨md, hG3.rmd, hG3.kmd, rw 7, hG3.row (by omega), hG3.krow (by omega), hG3.addA (by omega) hA3 (by simp; omega) hM2 (fun h4 it4 n4 vs4 bc4 bs4 hG4 hA4 _ => ?_)⟩
  refine gy_readExpression (K := fun q2 => (pRw cA e 0 q2).bind K) hT hG4 hC he (by omega) (fun j hj => hI.z j (by omega)) (by rw [R1, exA]) (fun h5 ν' q5 c1 c2 c3 c4 c5 c6 R2 hG5 _ => gy_count (K := fun _ => R) hT hG5 hC he (cnR (fun h9 => by rw [R2, pRw_n h9]; rfl)) (fun r25 h6 q6 d1 d2 d3 d4 ⟨x25, d5⟩ _ hG6 _ v26 e26 => ?_))
  have n48 : n4 8 = 2 * m8 := by rw [(hA4.2.1 8 (by omega)).1]; exact hm8
  have hrow8 : xr_row h6 (rw 8) 2 (n4 8) (it4 8) := hG6.rowOk (k := 8) (by omega)
  refine ⟨md, hG6.rmd, hG6.kmd, rw 7, hG6.row (by omega), md, hG6.rmd, hG6.kmd, rw 8, hG6.row (by omega), hG6.krow (by omega), sp_Row_lines hrow8 (by omega) (fun r35 e35 _ => ⟨hG6.krow (by omega), hG6.addA (by omega) hA4 (by simp; omega) hM2 (fun h7 it7 n7 vs7 bc7 bs7 hG7 hA7 _ => ?_)⟩)⟩
  refine ⟨md, hG7.rmd, hG7.kmd, rw 7, hG7.row (by omega), hG7.krow (by omega), hG7.addA (by omega) hA7 (by simp; omega) hM2 (fun h9 it9 n9 vs9 bc9 bs9 hG9 hA9 _ => ⟨(l - q6).toNat + 1, ?_⟩)⟩
  have ev : v26.toInt = r25.toInt % 4294967296 := by rw [e26, Z_low, Z_of32]
  have n98 : n9 8 = 2 * m8 := by rw [(hA9.2.1 8 (by omega)).1]; exact hm8
  have n97 : n9 7 = n 7 + 5 := by rw [hA9.1]; simp
  have hI9 : md_K N cb (va_up n9 7 (n 7)) vs9 ν' iv a q6 := (hI.ex (a' := q6) (ν' := ν') (by omega) (fun j hj => c3 j (by omega)) (fun j hj => c4 j (by omega))).pre (.inl rfl) hA9
  have ecv := (rC_E d5).2
  refine gy_readElementsL (vs := vs9) (n0 := n) (nS := n9) (q0 := q6) (b0 := a) hC he d5 (by rw [e26, u64 d4, ecv]) R2 hT hM hM2 (by omega) (fun h' it' n' vs' q bc' bs' f1 hG' f2 f3 f4 f5 f6 f7 f8 f9 R3 => ?_) _ 0 h9 it9 n9 vs9 q6 bc9 bs9 hG9 (Nat.le_refl q6) hI9 n97 (by simp) (by simp only [Int64.reduceToInt]; omega) (by simp only [Int64.reduceToInt]; omega) (fun j hj => by rw [(hA9.2.1 j hj).1]; omega) rfl (by omega) (fun j _ => ⟨rfl, rfl⟩) (fun i _ => rfl) (fun i hi => absurd hi (by simp)) rfl
  have hA' : xr_A 7 (va_up n' 7 (n 7)) vs' n' vs' ([] ++ [Int32.toInt64 (xb_i h rd 3)] ++ [r12.toInt64 &&& 4294967295] ++ [Int32.toInt64 (xb_i h3 rd 3)] ++ [Int32.toInt64 r35] ++ [v26]) := by
    refine ⟨by rw [xh_up, if_pos rfl, f3]; simp, fun j hj => ⟨by rw [xh_up, if_neg hj], rfl⟩, fun _ _ => rfl, fun i hi => ?_⟩
    rw [xh_up, if_pos rfl, f6]
    exact hA9.2.2.2 i hi
  refine hQ h' it' n' vs' ν' q bc' bs' (b + q5) (by omega) hG' (f2.x7 (p := q2) (e := q5) (b' := q) hA' (by simp) (by rw [xh_up, if_pos rfl]; omega) (by omega) c1 (by omega) (Nat.le_refl q) ?_ c5 (fun en hm => ?_)) (fun j => ?_) (fun j hj => c3 j (by omega)) f3 (by have := u64 d4; rw [← e26] at this; omega) (fun j j7 j8 => ⟨by rw [(f7 j j8).1, (hA9.2.1 j j7).1], by rw [(f7 j j8).2, (hA9.2.1 j j7).2]⟩) (fun i hi => by rw [f6]; exact hA9.2.2.1 i hi) (fun i hi => by rw [f8 i hi, (hA9.2.1 8 (by omega)).2]) (by rw [b3]; exact ⟨by omega, by omega, c6⟩) ?_ (by rw [ecv, d3]; exact f9) R3
  · simp only [List.nil_append, List.cons_append, List.getD_cons_zero, List.getD_cons_succ, Z_of32, hG3.iat]
  · unfold mp7
    have e8 : va_up n' 7 (n 7) 8 = n' 8 := by rw [xh_up, if_neg (by omega)]
    rw [e8]
    simp only [List.nil_append, List.cons_append, List.getD_cons_zero, List.getD_cons_succ, Z_of32, Z_low, hG.iat, hG3.iat, e35, ev]
    exact ⟨by omega, by omega, by omega, by omega, hm, by omega, by omega, by omega⟩
  · by_cases e : j = 7
    · rw [e, f3]
      omega
    · exact f5 j e
  · have w0 := hA9.2.2.2 0 (by simp)
    have w1 := hA9.2.2.2 1 (by simp)
    have w2 := hA9.2.2.2 2 (by simp)
    have w3 := hA9.2.2.2 3 (by simp)
    have w4 := hA9.2.2.2 4 (by simp)
    simp only [List.nil_append, List.cons_append, List.getD_cons_zero, List.getD_cons_succ, Nat.add_zero] at w0 w1 w2 w3 w4
    rw [f6, w0, w1, w2, w3, w4, Z_of32, hG.iat, u64 b4, Z_of32, hG3.iat, Z_of32, e35, e26, u64 d4, b3]
    exact ⟨by omega, rfl, by omega, by omega, rfl⟩
theorem gy_readLocalsL {Qr : Int32 → xb_H → Nat → Nat → Prop} {x1 : Int64} {q0 f0 G p2 : Nat} {n0 : Nat → Nat} {vS : Nat → Nat → Int64} (hT : rdT h0 rd op md rc rs b R Qt) (hC : cx_ cA cb b N) (he : l + b = e) (hxG : x1.toInt = G) (hM : 2 * N + 20 ≤ M) (hM2 : M ≤ 1000000) (hf0 : n0 10 = 2 * f0)
    (hQ : ∀ (u : Int32) (h' : xb_H) (it' n' : Nat → Nat) (vs' : Nat → Nat → Int64) (q bc' bs' g : Nat), q0 ≤ q → rdg ω h0 h' rd op md cd nt im N M rc rs rw cb it' n' vs' ν iv q l bc' bs' → md_I N cb n' vs' ν iv q → n' 10 = n0 10 + 2 * g → (∀ j, j ≠ 10 → n' j = n0 j) → u.toInt = gsum (vs' 10) f0 g → 0 ≤ u.toInt → u.toInt ≤ 1000 → g = G → b + q = lgE cA G p2 → u.toInt = (lgf cA G p2).length → (∀ j, j ≠ 10 → vs' j = vS j) → (∀ i, i < n0 10 → vs' 10 i = vS 10 i) → grp10 cA (n0 10) p2 G (vs' 10) → R = K (b + q) → Qr u h' bc' bs') :
    ∀ (m : Nat) (x3 x5 : Int64) (h : xb_H) (it n : Nat → Nat) (vs : Nat → Nat → Int64) (a bc bs g : Nat), rdg ω h0 h rd op md cd nt im N M rc rs rw cb it n vs ν iv a l bc bs → q0 ≤ a → md_I N cb n vs ν iv a → n 10 = n0 10 + 2 * g → (∀ j, j ≠ 10 → n j = n0 j) → x3.toInt = gsum (vs 10) f0 g → 0 ≤ x3.toInt → x3.toInt ≤ 1000 → l - a ≤ m → x5.toInt = g → g ≤ G → b + a = lgE cA g p2 → x3.toInt = (lgf cA g p2).length → (∀ j, j ≠ 10 → vs j = vS j) → (∀ i, i < n0 10 → vs 10 i = vS 10 i) → grp10 cA (n0 10) p2 g (vs 10) → (∃ mf, e - (b + a) + 1 ≤ mf ∧ R = (pLg cA e mf (G - g) (b + a) (lgf cA g p2).length).bind K) → w_Reader_readLocals_L15 Qr Qt (m + 1) rd x1 x3 x5 h bc bs
  | m, x3, x5, h, it, n, vs, a, bc, bs, g, hG, hq0, hI, h10, hoth, hsum, h30, h31, hm, hx5, hgG, hpl, hln, hvo, hvk, hgr, ⟨mf, hmf, hRm⟩ => by
    have hal := hG.al
    have hn10 := hI.nk (k := 10) (by omega)
    unfold w_Reader_readLocals_L15
    have lgx : ¬ x1 ≤ x5 → ∃ mf', e - (b + a) ≤ mf' ∧ R = (pCx cA e (b + a)).bind (fun p1 => (if 1000 < (lgf cA g p2).length + cV cA (b + a) then .error (9, b + a) else (pVT cA e p1).bind (fun q => pLg cA e mf' (G - (g + 1)) q ((lgf cA g p2).length + cV cA (b + a)))).bind K) := fun e9 => by
      rw [Z_le, hxG, hx5] at e9
      obtain ⟨mf', rfl⟩ : ∃ k, mf = k + 1 := ⟨mf - 1, by omega⟩
      refine ⟨mf', by omega, ?_⟩
      rw [hRm, show G - g = (G - (g + 1)) + 1 by omega, pLg_1, exA]
    refine ⟨fun e => ?_, fun e9 => ?_⟩
    rotate_left
    · obtain ⟨mf', hmf', hRc⟩ := lgx e9
      rw [Z_le, hxG, hx5] at e9
      refine ⟨hG.krd, fun v3 ev3 => gy_count hT hG hC he hRc (fun r5 h4 q4 b1 b2 b3 b4 b5 R1 hG4 _ v6 e6 v7 e7 => ?_)⟩
      have ev6n := u64 b4
      rw [← e6] at ev6n
      have ev7n : v7.toInt = ((lgf cA g p2).length + cV cA (b + a) : Nat) := by rw [e7, Z_add]; omega
      refine ⟨fun e8 => ?_, fun e8 => ⟨md, hG4.rmd, hG4.kmd, y_fail (c := 9) (w := b + a) hT hG4.X hG4.c hG4.b (by rw [R1, if_pos (by rw [Z_le] at e8; simp only [Int64.reduceToInt] at e8; omega)]; rfl) rfl (by rw [ev3, hG.iat]; omega)⟩⟩
      have R2 : R = ((pVT cA e (b + q4)).bind (fun q => pLg cA e mf' (G - (g + 1)) q ((lgf cA g p2).length + cV cA (b + a)))).bind K := by
        rw [R1, if_neg (by rw [Z_le] at e8; simp only [Int64.reduceToInt] at e8; omega)]
      have ev6 : v6.toInt = r5.toInt % 4294967296 := by rw [e6, Z_low, Z_of32]
      have ev7 : v7.toInt = x3.toInt + v6.toInt := by rw [e7, Z_add]; omega
      rw [Z_le] at e8
      simp only [Int64.reduceToInt] at e8
      unfold w_Reader_readLocals_L63
      refine ⟨hG4.krd, md, hG4.rmd, hG4.kmd, rw 10, hG4.row (by omega), hG4.krow (by omega), hG4.addA (by omega) (xr_A.rf 10 n vs) (by simp; omega) hM2 (fun h5 it5 n5 vs5 bc5 bs5 hG5 hA5 _ => ?_)⟩
      refine ⟨md, hG5.rmd, hG5.kmd, rw 10, hG5.row (by omega), gy_valueType (K := fun q => (pLg cA e mf' (G - (g + 1)) q ((lgf cA g p2).length + cV cA (b + a))).bind K) hT hG5 hC he (by rw [R2, exA]) (fun h11 c1 c2 c3 c4 R3 hG11 _ => ⟨hG11.krow (by omega), hG11.addA (by omega) hA5 (by simp; omega) hM2 (fun h14 it14 n14 vs14 bc14 bs14 hG14 hA14 _ v16 ev16 => ?_)⟩)⟩
      match m, hm with
      | 0, hm => omega
      | m + 1, hm =>
        refine gy_readLocalsL hT hC he hxG hM hM2 hf0 hQ m v7 v16 h14 it14 n14 vs14 (q4 + 1) bc14 bs14 (g + 1) hG14 (by omega) ((hI.at (a' := q4 + 1) (by omega)).a10 hA14 (by simp) (by omega) ?_).cl (by rw [hA14.1]; simp; omega) (fun j hj => by rw [(hA14.2.1 j hj).1]; exact hoth j hj) ?_ (by omega) (by omega) (by omega) ?_ (by omega) ?_ ?_ (fun j hj => by rw [(hA14.2.1 j hj).2]; exact hvo j hj) (fun i hi => by rw [hA14.2.2.1 i (by omega)]; exact hvk i hi) (fun i hi => ?_) ⟨mf', by omega, ?_⟩
        · unfold mp10
          simp only [List.nil_append, List.cons_append, List.getD_cons_zero, List.getD_cons_succ, Z_of32, ev6]
          exact ⟨by omega, by omega, c1, c2⟩
        · unfold gsum
          rw [gsum_congr g (fun j hj => hA14.2.2.1 j (by omega)), ← hsum, ev7]
          have h9 := hA14.2.2.2 0 (by simp)
          simp only [List.nil_append, List.cons_append, List.getD_cons_zero] at h9
          rw [show 2 * (f0 + g) = n 10 + 0 by omega, h9]
        · rw [ev16, Z_add, hx5]
          simp only [Int64.reduceToInt]
          omega
        · rw [lgE_s, ← hpl, b3]
          omega
        · rw [ev7n, lgf_e, ← hpl]
        · rcases Nat.lt_or_ge i g with h9 | h9
          · rw [hA14.2.2.1 _ (by omega), hA14.2.2.1 _ (by omega)]
            exact hgr i h9
          · have ei : i = g := by omega
            have w0 := hA14.2.2.2 0 (by simp)
            have w1 := hA14.2.2.2 1 (by simp)
            simp only [List.nil_append, List.cons_append, List.getD_cons_zero, List.getD_cons_succ] at w0 w1
            rw [show n0 10 + 2 * i = n 10 + 0 by omega, w0, show n 10 + 0 + 1 = n 10 + 1 by omega, w1, Z_of32, ev6n, ei, ← hpl, b3]
            exact ⟨rfl, rfl⟩
        · rw [R3, lgf_e, ← hpl]
    · have e9 : x3.toInt32.toInt = x3.toInt := by rw [z_of64]; omega
      rw [Z_le, hxG, hx5] at e
      have eg : g = G := by omega
      subst eg
      exact hQ _ h it n vs a bc bs g hq0 hG hI h10 hoth (by rw [e9]; exact hsum) (by omega) (by omega) rfl hpl (by rw [e9]; exact hln) hvo hvk hgr (by rw [hRm, show g - g = 0 by omega, pLg_0]; rfl)
theorem gy_readLocals {Qr : Int32 → xb_H → Nat → Nat → Prop} {f0 : Nat} (hT : rdT h0 rd op md rc rs b R Qt) (hG : rdg ω h0 h rd op md cd nt im N M rc rs rw cb it n vs ν iv a l bc bs) (hI : md_I N cb n vs ν iv a) (hC : cx_ cA cb b N) (he : l + b = e) (hM : 2 * N + 20 ≤ M) (hM2 : M ≤ 1000000) (hf0 : n 10 = 2 * f0) (hR : R = (pCx cA e (b + a)).bind (fun p2 => (pLg cA e (e - p2 + 1) (cV cA (b + a)) p2 0).bind K))
    (hQ : ∀ (u : Int32) (h' : xb_H) (it' n' : Nat → Nat) (vs' : Nat → Nat → Int64) (q bc' bs' g : Nat), a < q → rdg ω h0 h' rd op md cd nt im N M rc rs rw cb it' n' vs' ν iv q l bc' bs' → md_I N cb n' vs' ν iv q → n' 10 = n 10 + 2 * g → (∀ j, j ≠ 10 → n' j = n j) → u.toInt = gsum (vs' 10) f0 g → 0 ≤ u.toInt → u.toInt ≤ 1000 → g = cV cA (b + a) → b + q = lgE cA (cV cA (b + a)) (cE cA (b + a)) → u.toInt = (lgf cA (cV cA (b + a)) (cE cA (b + a))).length → (∀ j, j ≠ 10 → vs' j = vs j) → (∀ i, i < n 10 → vs' 10 i = vs 10 i) → grp10 cA (n 10) (cE cA (b + a)) (cV cA (b + a)) (vs' 10) → R = K (b + q) → Qr u h' bc' bs') : w_Reader_readLocals rd h bc bs Qr Qt := by
  unfold w_Reader_readLocals
  refine ⟨hG.krd, gy_count hT hG hC he hR (fun r3 h2 q2 b1 b2 b3 b4 b5 R1 hG2 _ v4 ev4 => ⟨(l - q2).toNat + 1, ?_⟩)⟩
  exact gy_readLocalsL (q0 := a + 1) (n0 := n) (G := cV cA (b + a)) (p2 := cE cA (b + a)) (vS := vs) hT hC he (by rw [ev4, u64 b4]) hM hM2 hf0 (fun u h' it' n' vs' q bc' bs' g g1 => hQ u h' it' n' vs' q bc' bs' g (by omega)) _ 0 0 h2 it n vs q2 bc bs 0 hG2 (by omega) (hI.at (by omega)).cl (by omega) (fun j _ => rfl) rfl (by simp) (by simp) (by omega) rfl (by omega) (by rw [b3]; rfl) rfl (fun j _ => rfl) (fun i _ => rfl) (fun i hi => by omega) ⟨_, Nat.le_refl _, R1⟩
theorem gy_readBody {Qr : xb_H → Nat → Nat → Prop} (hT : rdT h0 rd op md rc rs b R Qt) (hG : rdg ω h0 h rd op md cd nt im N M rc rs rw cb it n vs ν iv a l bc bs) (hI : md_I N cb n vs ν iv a) (hC : cx_ cA cb b N) (he : l + b = e) (hM : 2 * N + 20 ≤ M) (hM2 : M ≤ 1000000) (hR : R = (pEnt cA e 10 (b + a)).bind K)
    (hQ : ∀ (h' : xb_H) (it' n' : Nat → Nat) (vs' : Nat → Nat → Int64) (ν' : Nat → Int32) (q bc' bs' : Nat), a < q → rdg ω h0 h' rd op md cd nt im N M rc rs rw cb it' n' vs' ν' iv q l bc' bs' → md_I N cb n' vs' ν' iv q → (∀ j, n j ≤ n' j) → (∀ j, j < a → ν' j = ν j) → n' 9 = n 9 + 5 → n' 10 = n 10 + 2 * cV cA (cE cA (b + a)) → (∀ j, j ≠ 9 → j ≠ 10 → n' j = n j ∧ vs' j = vs j) → (∀ i, i < n 9 → vs' 9 i = vs 9 i) → (∀ i, i < n 10 → vs' 10 i = vs 10 i) → b + q = cE cA (b + a) + cV cA (b + a) → eW cA ν' b q (cE cA (b + a) + cV cA (b + a)) (lgE cA (cV cA (cE cA (b + a))) (cE cA (cE cA (b + a)))) → ep9 cA b (n 10 / 2) (b + a) (fun j => (vs' 9 (n 9 + j)).toInt) → grp10 cA (n 10) (cE cA (cE cA (b + a))) (cV cA (cE cA (b + a))) (vs' 10) → R = K (b + q) → Qr h' bc' bs') : w_Reader_readBody rd h bc bs Qr Qt := by
  unfold w_Reader_readBody
  have hal := hG.al
  obtain ⟨-, ⟨f0, hf0⟩, -⟩ := hI.d
  refine ⟨hG.krd, fun v2 e2 => gy_count (K := fun p1 => (if e < p1 + cV cA (b + a) then .error (2, e) else pBr cA (p1 + cV cA (b + a)) p1).bind K) hT hG hC he (by rw [hR]; exact exA) (fun r4 h3 q3 b1 b2 b3 b4 b5 R1 hG3 _ => y_limitTo hT hG3.X (hG3.q hC he) hG3.c hG3.b b4 (fun h9 => by rw [R1, if_pos h9]; rfl) (fun v c1' c3' _ => ?_))⟩
  have hG5 := hG3.lim (v := v) (by omega) (by omega)
  have he' : v.toInt + b = (b + q3 + cV cA (b + a) : Nat) := c1'
  have R2 : R = (pCx cA (b + q3 + cV cA (b + a)) (b + q3)).bind (fun p2 => (pLg cA (b + q3 + cV cA (b + a)) (b + q3 + cV cA (b + a) - p2 + 1) (cV cA (b + q3)) p2 0).bind (fun p3 => (pExp cA (b + q3 + cV cA (b + a)) p3).bind (fun p4 => (if p4 < b + q3 + cV cA (b + a) then (Except.error (7, p4) : Rs) else .ok p4).bind K))) := by
    rw [R1, if_neg (by omega)]
    unfold pBr pBq
    rw [exA, exA, exA]
  obtain ⟨h5, e5⟩ : ∃ h5, h5 = xb_I h3 rd 4 v := ⟨_, rfl⟩
  rw [← e5] at hG5 ⊢
  have hrow10 : xr_row h5 (rw 10) 2 (n 10) (it 10) := hG5.rowOk (k := 10) (by omega)
  refine ⟨md, hG5.rmd, hG5.kmd, rw 10, hG5.row (by omega), hG5.krow (by omega), sp_Row_lines hrow10 (by omega) (fun r12 e12 _ => ?_)⟩
  refine gy_readLocals hT hG5 (hI.at (by omega)).cl hC he' hM hM2 hf0 R2 (fun r14 h13 it13 n13 vs13 q13 bc13 bs13 g d1 hG13 hI13 d2 d3 d4 d5 d6 d7 d8 d9 d10 d11 d12 R3 _ => ?_)
  have hal13 := hG13.al
  have hn9 := hI13.nk (k := 9) (by omega)
  have h89 := hI13.ge8
  refine ⟨md, hG13.rmd, hG13.kmd, rw 9, hG13.row (by omega), hG13.krow (by omega), hG13.addA (by omega) (xr_A.rf 9 n13 vs13) (by simp; omega) hM2 (fun h14 it14 n14 vs14 bc14 bs14 hG14 hA14 _ => ?_)⟩
  refine ⟨md, hG14.rmd, hG14.kmd, rw 9, hG14.row (by omega), hG14.krow (by omega), hG14.addA (by omega) hA14 (by simp; omega) hM2 (fun h15 it15 n15 vs15 bc15 bs15 hG15 hA15 _ => ?_)⟩
  refine ⟨md, hG15.rmd, hG15.kmd, rw 9, hG15.row (by omega), hG15.krow (by omega), hG15.addA (by omega) hA15 (by simp; omega) hM2 (fun h16 it16 n16 vs16 bc16 bs16 hG16 hA16 _ => ?_)⟩
  have n1610 : n16 10 = n 10 + 2 * g := by rw [(hA16.2.1 10 (by omega)).1]; exact d2
  have hrow10' : xr_row h16 (rw 10) 2 (n16 10) (it16 10) := hG16.rowOk (k := 10) (by omega)
  refine ⟨md, hG16.rmd, hG16.kmd, rw 9, hG16.row (by omega), md, hG16.rmd, hG16.kmd, rw 10, hG16.row (by omega), hG16.krow (by omega), sp_Row_lines hrow10' (by omega) (fun r41 e41 _ => ⟨hG16.krow (by omega), hG16.addA (by omega) hA16 (by simp; omega) hM2 (fun h17 it17 n17 vs17 bc17 bs17 hG17 hA17 _ => ?_)⟩)⟩
  refine ⟨md, hG17.rmd, hG17.kmd, rw 9, hG17.row (by omega), hG17.krow (by omega), hG17.addA (by omega) hA17 (by simp; omega) hM2 (fun h18 it18 n18 vs18 bc18 bs18 hG18 hA18 _ => ?_)⟩
  refine gy_readExpression (K := fun p4 => (if p4 < b + q3 + cV cA (b + a) then (Except.error (7, p4) : Rs) else .ok p4).bind K) hT hG18 hC he' (by omega) (fun j hj => hI13.z j (by omega)) R3 (fun h19 ν' q19 f1 f2 f3 f4 f5 f6 R4 hG19 _ => ⟨fun hle => ?_, fun hle => ⟨md, hG19.rmd, hG19.kmd, y_fail (c := 7) (w := b + q19) hT hG19.X hG19.c hG19.b (by rw [R4, if_pos (by rw [z_le, hG19.ilim, hG19.iat] at hle; omega)]; rfl) rfl (by rw [hG19.iat]; omega)⟩⟩)
  have eE : b + q19 = b + q3 + cV cA (b + a) := by rw [z_le, hG19.ilim, hG19.iat] at hle; omega
  unfold w_Reader_readBody_L130
  refine ⟨hG19.krd, fun h20 e20 => ?_⟩
  subst e20
  have ev2 : v2.toInt = l := by rw [e2]; exact hG.ilim
  have hG20 := hG19.lim (v := v2) (by omega) (by omega)
  rw [ev2] at hG20
  have e12' : r12.toInt = f0 := by rw [e12, hf0]; omega
  have e41' : r41.toInt = f0 + g := by rw [e41, n1610, hf0]; omega
  have hb10 := hI13.nk (k := 10) (by omega)
  have e42 : (r41 - r12).toInt = g := by rw [z_sub, e41', e12']; omega
  have hn9' := hI.nk (k := 9) (by omega)
  have d39 := d3 9 (by omega)
  refine hQ _ it18 n18 vs18 ν' q19 bc18 bs18 (by omega) hG20 ((hI13.ex (a' := q19) (ν' := ν') (by omega) f3 f4).x9 (p := q13) (e := q19) (b' := q19) hA18 (by simp) (by omega) (Nat.le_refl q13) f1 (Nat.le_refl q19) (Nat.le_refl q19) ?_ f5 (fun en hm => ?_)) (fun j => ?_) (fun j hj => f3 j (by omega)) (by rw [hA18.1, d39]; rfl) (by rw [(hA18.2.1 10 (by omega)).1, d2, d7, b3]) (fun j j9 j10 => ⟨by rw [(hA18.2.1 j j9).1, d3 j j10], by rw [(hA18.2.1 j j9).2, d10 j j10]⟩) (fun i hi => by rw [hA18.2.2.1 i (by omega), d10 9 (by omega)]) (fun i hi => by rw [(hA18.2.1 10 (by omega)).2]; exact d11 i hi) (by rw [b3]; exact eE) (by rw [b3, ← d8, ← eE]; exact ⟨by omega, by omega, f6⟩) ?_ (by rw [(hA18.2.1 10 (by omega)).2, b3]; exact d12) (by rw [R4, if_neg (by omega)]; rfl)
  · simp only [List.nil_append, List.cons_append, List.getD_cons_zero, List.getD_cons_succ, Z_of32, hG13.iat]
  · unfold mp9
    simp only [List.nil_append, List.cons_append, List.getD_cons_zero, List.getD_cons_succ, Z_of32, hG13.iat, e42, e12', Int.toNat_natCast]
    exact ⟨hm, d5, d6, by omega, by omega, by omega, d4.symm⟩
  · by_cases e : j = 9
    · rw [e, hA18.1, d3 9 (by omega)]
      omega
    · rw [(hA18.2.1 j e).1]
      by_cases e10 : j = 10
      · rw [e10]
        omega
      · rw [d3 j e10]
        omega
  · have w0 := hA18.2.2.2 0 (by simp)
    have w1 := hA18.2.2.2 1 (by simp)
    have w2 := hA18.2.2.2 2 (by simp)
    have w3 := hA18.2.2.2 3 (by simp)
    have w4 := hA18.2.2.2 4 (by simp)
    simp only [List.nil_append, List.cons_append, List.getD_cons_zero, List.getD_cons_succ, Nat.add_zero] at w0 w1 w2 w3 w4
    unfold ep9
    show (vs18 9 (n 9 + 0)).toInt + _ = _ ∧ (vs18 9 (n 9 + 1)).toInt = _ ∧ (vs18 9 (n 9 + 2)).toInt = _ ∧ (vs18 9 (n 9 + 3)).toInt = _ ∧ (vs18 9 (n 9 + 4)).toInt = _
    rw [Nat.add_zero, ← d39, w0, w1, w2, w3, w4, Z_of32, hG13.iat, Z_of32, Z_of32, e12', Z_of32, e42, b3, ← d8]
    exact ⟨by omega, d9, by omega, by omega, rfl⟩
end CR8
