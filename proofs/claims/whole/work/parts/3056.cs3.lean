-- the checker in a body: what opens, labels
section CS3
variable {S : Nat → Prop} {h0 h : xb_H} {md rd op ck cd nt im N oa rc rs : Nat} {ca : Nat → Nat} {rw it n : Nat → Nat} {vs : Nat → Nat → Int64} {cb ν iv lo : Nat → Int32} {R0 F : Nat → Nat → Int32} {bc bs : Nat} {Qt : String → xb_H → Nat → Nat → Prop} {cur : List Int} {fs r : List ckF} {f : ckF} {g p lc ty : Int}
theorem cs_openThing {x1 x2 x3 x4 : Int32} {Qr : xb_H → Prop} (lv : Bool) (hH : ck_H S h0 h md rd op ck cd nt im N oa ca rw it n vs cb iv R0) (hF : ck_Fr S h0 h F) (hS : ck_S ck oa nt cd im ca rw R0 cb iv F cur fs ν lo g p lc ty) (hfl : fs.length ≤ 200)
    (hQ : ∀ F' : Nat → Nat → Int32, ck_Fr S h0 h F' → ck_S ck oa nt cd im ca rw R0 cb iv F' cur ((x1.toInt, x2.toInt, x3.toInt, x4.toInt, cur, 0, lv) :: fs) ν lo g p lc ty → Qr (xb_W h F')) : w_Checker_openThing ck x1 x2 x3 x4 (xb_W h F) Qr := by
  obtain ⟨⟨s1, s2, s3, s4, s5, s6⟩, so, sf, s7, s8, s9, s10, s11, s12⟩ := id hS
  obtain ⟨-, -, -, hD, ⟨S1, S2, S3⟩, kck, kmd, ha, hN, -⟩ := id hH
  obtain ⟨⟨D1, D2, D3, D4⟩, ⟨D5, D6, D7⟩, D8, D9, D10, D11⟩ := id hD
  have hca : ∀ i j, 1 ≤ i → i ≤ 6 → 1 ≤ j → j ≤ 6 → i ≠ j → ca i ≠ ca j := fun i j i1 i2 j1 j2 ij e => ij (D10 i j (by omega) (by omega) e)
  have c16 : (F ck 16).toNatClampNeg = fs.length := by rw [z_cl, s6]; omega
  have a1 : xb_r h ck 10 = some (ca 1) ∧ xb_k h (ca 1) = 102 ∧ xb_n h (ca 1) = 201 ∧ S (ca 1) := ha 1 (by omega)
  have a2 : xb_r h ck 11 = some (ca 2) ∧ xb_k h (ca 2) = 102 ∧ xb_n h (ca 2) = 201 ∧ S (ca 2) := ha 2 (by omega)
  have a3 : xb_r h ck 12 = some (ca 3) ∧ xb_k h (ca 3) = 102 ∧ xb_n h (ca 3) = 201 ∧ S (ca 3) := ha 3 (by omega)
  have a4 : xb_r h ck 13 = some (ca 4) ∧ xb_k h (ca 4) = 102 ∧ xb_n h (ca 4) = 201 ∧ S (ca 4) := ha 4 (by omega)
  have a5 : xb_r h ck 14 = some (ca 5) ∧ xb_k h (ca 5) = 102 ∧ xb_n h (ca 5) = 201 ∧ S (ca 5) := ha 5 (by omega)
  have a6 : xb_r h ck 15 = some (ca 6) ∧ xb_k h (ca 6) = 101 ∧ xb_n h (ca 6) = 201 ∧ S (ca 6) := ha 6 (by omega)
  unfold w_Checker_openThing
  refine ⟨kck, ca 1, a1.1, a1.2.1, by rw [z_in, xW_i, s6, xW_n, a1.2.2.1]; omega, fun h1 e1 => ?_⟩
  rw [xW_i, xW_I, c16] at e1
  subst e1
  obtain ⟨F1, hF1⟩ : ∃ X, X = va_up F (ca 1) (va_up (F (ca 1)) fs.length x1) := ⟨_, rfl⟩
  rw [← hF1]
  have hne1 : ∀ b, b ≠ ca 1 → F1 b = F b := fun b hb => by rw [hF1, xh_up, if_neg hb]
  have hat1 : F1 (ca 1) = va_up (F (ca 1)) fs.length x1 := by rw [hF1, xh_up, if_pos rfl]
  have ek1 : F1 ck = F ck := by rw [hne1 ck (D9 1 (by omega)).1.symm]
  have hr1 : ck_Fr S h0 h F1 := by rw [hF1]; exact hF.up (.inl a1.2.2.2)
  refine ⟨ca 2, a2.1, a2.2.1, by rw [z_in, xW_i, ek1, s6, xW_n, a2.2.2.1]; omega, fun h2 e2 => ?_⟩
  rw [xW_i, xW_I, ek1, c16] at e2
  subst e2
  obtain ⟨F2, hF2⟩ : ∃ X, X = va_up F1 (ca 2) (va_up (F1 (ca 2)) fs.length x2) := ⟨_, rfl⟩
  rw [← hF2]
  have hne2 : ∀ b, b ≠ ca 2 → F2 b = F1 b := fun b hb => by rw [hF2, xh_up, if_neg hb]
  have hat2 : F2 (ca 2) = va_up (F (ca 2)) fs.length x2 := by rw [hF2, xh_up, if_pos rfl, hne1 (ca 2) (hca 2 1 (by omega) (by omega) (by omega) (by omega) (by omega))]
  have ek2 : F2 ck = F ck := by rw [hne2 ck (D9 2 (by omega)).1.symm, ek1]
  have hr2 : ck_Fr S h0 h F2 := by rw [hF2]; exact hr1.up (.inl a2.2.2.2)
  refine ⟨ca 3, a3.1, a3.2.1, by rw [z_in, xW_i, ek2, s6, xW_n, a3.2.2.1]; omega, fun h3 e3 => ?_⟩
  rw [xW_i, xW_I, ek2, c16] at e3
  subst e3
  obtain ⟨F3, hF3⟩ : ∃ X, X = va_up F2 (ca 3) (va_up (F2 (ca 3)) fs.length x3) := ⟨_, rfl⟩
  rw [← hF3]
  have hne3 : ∀ b, b ≠ ca 3 → F3 b = F2 b := fun b hb => by rw [hF3, xh_up, if_neg hb]
  have hat3 : F3 (ca 3) = va_up (F (ca 3)) fs.length x3 := by rw [hF3, xh_up, if_pos rfl, hne2 (ca 3) (hca 3 2 (by omega) (by omega) (by omega) (by omega) (by omega)), hne1 (ca 3) (hca 3 1 (by omega) (by omega) (by omega) (by omega) (by omega))]
  have ek3 : F3 ck = F ck := by rw [hne3 ck (D9 3 (by omega)).1.symm, ek2]
  have hr3 : ck_Fr S h0 h F3 := by rw [hF3]; exact hr2.up (.inl a3.2.2.2)
  refine ⟨ca 4, a4.1, a4.2.1, by rw [z_in, xW_i, ek3, s6, xW_n, a4.2.2.1]; omega, fun h4 e4 => ?_⟩
  rw [xW_i, xW_I, ek3, c16] at e4
  subst e4
  obtain ⟨F4, hF4⟩ : ∃ X, X = va_up F3 (ca 4) (va_up (F3 (ca 4)) fs.length x4) := ⟨_, rfl⟩
  rw [← hF4]
  have hne4 : ∀ b, b ≠ ca 4 → F4 b = F3 b := fun b hb => by rw [hF4, xh_up, if_neg hb]
  have hat4 : F4 (ca 4) = va_up (F (ca 4)) fs.length x4 := by rw [hF4, xh_up, if_pos rfl, hne3 (ca 4) (hca 4 3 (by omega) (by omega) (by omega) (by omega) (by omega)), hne2 (ca 4) (hca 4 2 (by omega) (by omega) (by omega) (by omega) (by omega)), hne1 (ca 4) (hca 4 1 (by omega) (by omega) (by omega) (by omega) (by omega))]
  have ek4 : F4 ck = F ck := by rw [hne4 ck (D9 4 (by omega)).1.symm, ek3]
  have hr4 : ck_Fr S h0 h F4 := by rw [hF4]; exact hr3.up (.inl a4.2.2.2)
  refine ⟨ca 5, a5.1, a5.2.1, by rw [z_in, xW_i, ek4, s6, xW_n, a5.2.2.1]; omega, fun h5 e5 => ?_⟩
  rw [xW_i, xW_I, ek4, c16] at e5
  subst e5
  obtain ⟨F5, hF5⟩ : ∃ X, X = va_up F4 (ca 5) (va_up (F4 (ca 5)) fs.length (F ck 4)) := ⟨_, rfl⟩
  rw [← hF5]
  have hne5 : ∀ b, b ≠ ca 5 → F5 b = F4 b := fun b hb => by rw [hF5, xh_up, if_neg hb]
  have hat5 : F5 (ca 5) = va_up (F (ca 5)) fs.length (F ck 4) := by rw [hF5, xh_up, if_pos rfl, hne4 (ca 5) (hca 5 4 (by omega) (by omega) (by omega) (by omega) (by omega)), hne3 (ca 5) (hca 5 3 (by omega) (by omega) (by omega) (by omega) (by omega)), hne2 (ca 5) (hca 5 2 (by omega) (by omega) (by omega) (by omega) (by omega)), hne1 (ca 5) (hca 5 1 (by omega) (by omega) (by omega) (by omega) (by omega))]
  have ek5 : F5 ck = F ck := by rw [hne5 ck (D9 5 (by omega)).1.symm, ek4]
  have hr5 : ck_Fr S h0 h F5 := by rw [hF5]; exact hr4.up (.inl a5.2.2.2)
  refine ⟨ca 6, a6.1, a6.2.1, by rw [z_in, xW_i, ek5, s6, xW_n, a6.2.2.1]; omega, fun h6 e6 => ?_⟩
  rw [xW_i, xW_I, ek5, c16, show vp_nar .boolean 0 = 0 from rfl] at e6
  subst e6
  obtain ⟨F6, hF6⟩ : ∃ X, X = va_up F5 (ca 6) (va_up (F5 (ca 6)) fs.length 0) := ⟨_, rfl⟩
  rw [← hF6]
  have hne6 : ∀ b, b ≠ ca 6 → F6 b = F5 b := fun b hb => by rw [hF6, xh_up, if_neg hb]
  have hat6 : F6 (ca 6) = va_up (F (ca 6)) fs.length 0 := by rw [hF6, xh_up, if_pos rfl, hne5 (ca 6) (hca 6 5 (by omega) (by omega) (by omega) (by omega) (by omega)), hne4 (ca 6) (hca 6 4 (by omega) (by omega) (by omega) (by omega) (by omega)), hne3 (ca 6) (hca 6 3 (by omega) (by omega) (by omega) (by omega) (by omega)), hne2 (ca 6) (hca 6 2 (by omega) (by omega) (by omega) (by omega) (by omega)), hne1 (ca 6) (hca 6 1 (by omega) (by omega) (by omega) (by omega) (by omega))]
  have ek6 : F6 ck = F ck := by rw [hne6 ck (D9 6 (by omega)).1.symm, ek5]
  have hr6 : ck_Fr S h0 h F6 := by rw [hF6]; exact hr5.up (.inl a6.2.2.2)
  intro h7 e7
  rw [xW_i, xW_I, ek6] at e7
  subst e7
  have e161 : (F ck 16 + 1).toInt = fs.length + 1 := by rw [z_add, s6]; simp only [Int32.reduceToInt]; omega
  have gat : ∀ b, (∀ k, 1 ≤ k → k ≤ 6 → b ≠ ca k) → F6 b = F b := fun b hb => by rw [hne6 b (hb 6 (by omega) (by omega)), hne5 b (hb 5 (by omega) (by omega)), hne4 b (hb 4 (by omega) (by omega)), hne3 b (hb 3 (by omega) (by omega)), hne2 b (hb 2 (by omega) (by omega)), hne1 b (hb 1 (by omega) (by omega))]
  have w1 : F6 (ca 1) = va_up (F (ca 1)) fs.length x1 := by rw [hne6 (ca 1) (hca 1 6 (by omega) (by omega) (by omega) (by omega) (by omega)), hne5 (ca 1) (hca 1 5 (by omega) (by omega) (by omega) (by omega) (by omega)), hne4 (ca 1) (hca 1 4 (by omega) (by omega) (by omega) (by omega) (by omega)), hne3 (ca 1) (hca 1 3 (by omega) (by omega) (by omega) (by omega) (by omega)), hne2 (ca 1) (hca 1 2 (by omega) (by omega) (by omega) (by omega) (by omega)), hat1]
  have w2 : F6 (ca 2) = va_up (F (ca 2)) fs.length x2 := by rw [hne6 (ca 2) (hca 2 6 (by omega) (by omega) (by omega) (by omega) (by omega)), hne5 (ca 2) (hca 2 5 (by omega) (by omega) (by omega) (by omega) (by omega)), hne4 (ca 2) (hca 2 4 (by omega) (by omega) (by omega) (by omega) (by omega)), hne3 (ca 2) (hca 2 3 (by omega) (by omega) (by omega) (by omega) (by omega)), hat2]
  have w3 : F6 (ca 3) = va_up (F (ca 3)) fs.length x3 := by rw [hne6 (ca 3) (hca 3 6 (by omega) (by omega) (by omega) (by omega) (by omega)), hne5 (ca 3) (hca 3 5 (by omega) (by omega) (by omega) (by omega) (by omega)), hne4 (ca 3) (hca 3 4 (by omega) (by omega) (by omega) (by omega) (by omega)), hat3]
  have w4 : F6 (ca 4) = va_up (F (ca 4)) fs.length x4 := by rw [hne6 (ca 4) (hca 4 6 (by omega) (by omega) (by omega) (by omega) (by omega)), hne5 (ca 4) (hca 4 5 (by omega) (by omega) (by omega) (by omega) (by omega)), hat4]
  have w5 : F6 (ca 5) = va_up (F (ca 5)) fs.length (F ck 4) := by rw [hne6 (ca 5) (hca 5 6 (by omega) (by omega) (by omega) (by omega) (by omega)), hat5]
  have w6 : F6 (ca 6) = va_up (F (ca 6)) fs.length 0 := by rw [hat6]
  have hS6 : ck_S ck oa nt cd im ca rw R0 cb iv F6 cur fs ν lo g p lc ty := by
    refine ⟨by rw [ek6]; exact ⟨s1, s2, s3, s4, s5, s6⟩, by rw [gat oa (fun k k1 k2 => (D9 k (by omega)).2.1.symm)]; exact so, sf.cg (fun k j k1 k2 kj => ?_), by rw [gat nt (fun k k1 k2 => (D9 k (by omega)).2.2.1.symm)]; exact s7, by rw [gat (ca 0) (fun k k1 k2 e => by have := D10 0 k (by omega) (by omega) e; omega)]; exact s8, by rw [gat cd (fun k k1 k2 => (D9 k (by omega)).2.2.2.1.symm)]; exact s9, by rw [gat im (fun k k1 k2 => (D9 k (by omega)).2.2.2.2.symm)]; exact s10, fun k hk => by rw [gat (rw k) (fun j j1 j2 => (D11 k hk).2.2.2 j (by omega))]; exact s11 k hk, s12⟩
    show F6 (ca k) j = F (ca k) j
    have hk6 : k = 1 ∨ k = 2 ∨ k = 3 ∨ k = 4 ∨ k = 5 ∨ k = 6 := by omega
    rcases hk6 with rfl | rfl | rfl | rfl | rfl | rfl
    · rw [w1, xh_up, if_neg (by omega)]
    · rw [w2, xh_up, if_neg (by omega)]
    · rw [w3, xh_up, if_neg (by omega)]
    · rw [w4, xh_up, if_neg (by omega)]
    · rw [w5, xh_up, if_neg (by omega)]
    · rw [w6, xh_up, if_neg (by omega)]
  refine hQ _ (hr6.up (.inl S1)) (hS6.upk hD ⟨by rw [xh_up, if_neg (by omega)]; exact s1, by rw [xh_up, if_neg (by omega)]; exact s2, by rw [xh_up, if_neg (by omega)]; exact s3, by rw [xh_up, if_neg (by omega)]; exact s4, by rw [xh_up, if_neg (by omega)]; exact s5, by rw [xh_up, if_pos rfl, e161]; simp⟩ hS6.2.1 ⟨⟨?_, ?_, ?_, ?_, ?_, ?_⟩, hS6.2.2.1⟩ s12)
  · show (F6 (ca 1) fs.length).toInt = _
    rw [w1, xh_up, if_pos rfl]
    rfl
  · show (F6 (ca 2) fs.length).toInt = _
    rw [w2, xh_up, if_pos rfl]
    rfl
  · show (F6 (ca 3) fs.length).toInt = _
    rw [w3, xh_up, if_pos rfl]
    rfl
  · show (F6 (ca 4) fs.length).toInt = _
    rw [w4, xh_up, if_pos rfl]
    rfl
  · show (F6 (ca 5) fs.length).toInt = _
    rw [w5, xh_up, if_pos rfl]
    exact s1
  · show (F6 (ca 6) fs.length).toInt = _
    rw [w6, xh_up, if_pos rfl]
    rfl
/-- a note is written -/
theorem ck_S.nt_ {k : Nat} {w : Int32} (hD : ck_D ck oa nt cd im ca rw) (hS : ck_S ck oa nt cd im ca rw R0 cb iv F cur fs ν lo g p lc ty) : ck_S ck oa nt cd im ca rw R0 cb iv (va_up F nt (va_up (F nt) k w)) cur fs (va_up ν k w) lo g p lc ty := by
  obtain ⟨hs, so, sf, s7, s8, s9, s10, s11, s12⟩ := hS
  obtain ⟨⟨D1, D2, D3, D4⟩, ⟨D5, D6, D7⟩, D8, D9, D10, D11⟩ := hD
  have hne : ∀ b, b ≠ nt → va_up F nt (va_up (F nt) k w) b = F b := fun b hb => by rw [xh_up, if_neg hb]
  exact ⟨by rw [hne ck D5]; exact hs, by rw [hne oa D3]; exact so, sf.cg (fun k j k1 k2 _ => by rw [hne (ca k) (D9 k (by omega)).2.2.1]), by rw [xh_up, if_pos rfl, s7], by rw [hne (ca 0) (D9 0 (by omega)).2.2.1]; exact s8, by rw [hne cd D8.1.symm]; exact s9, by rw [hne im D8.2.symm]; exact s10, fun j hj => by rw [hne (rw j) (D11 j hj).2.2.1]; exact s11 j hj, s12⟩
/-- the open thing of a number -/
theorem cf_o.at {G : Nat → Nat → Int32} : ∀ {fs : List ckF} {i : Nat} (hi : i < fs.length), cf_o G fs → ∃ f : ckF, fs[i]? = some f ∧ (G 1 (fs.length - 1 - i)).toInt = fk f ∧ (G 2 (fs.length - 1 - i)).toInt = fa f ∧ (G 3 (fs.length - 1 - i)).toInt = fl_ f ∧ (G 4 (fs.length - 1 - i)).toInt = fe f
  | [], i, hi, _ => by simp at hi
  | f :: r, 0, _, h => ⟨f, rfl, by rw [show (f :: r).length - 1 - 0 = r.length by simp]; exact ⟨h.1.1, h.1.2.1, h.1.2.2.1, h.1.2.2.2.1⟩⟩
  | f :: r, i + 1, hi, h => by
    obtain ⟨f', e1, e2⟩ := cf_o.at (fs := r) (i := i) (by simpa using hi) h.2
    refine ⟨f', by simpa using e1, ?_⟩
    rw [show (f :: r).length - 1 - (i + 1) = r.length - 1 - i by simp; omega]
    exact e2
theorem cs_checkLabel {x : Int32} {k : Nat} {Qr : Int32 → xb_H → Nat → Nat → Prop} (hT : ck_T S h0 md rd op ck ca rc rs Qt) (hH : ck_H S h0 h md rd op ck cd nt im N oa ca rw it n vs cb iv R0) (hF : ck_Fr S h0 h F) (hc : rc + 1 ≤ bc) (hb : rs + 6 ≤ bs) (hS : ck_S ck oa nt cd im ca rw R0 cb iv F cur fs ν lo g p lc ty) (hx : x.toInt = k) (hk : k < N) (hfl : fs.length ≤ 201)
    (hQ : ∀ (u : Int32) (F' : Nat → Nat → Int32) (i : Nat) (f' : ckF) (w : Int32), (ν k).toInt = i → fs[i]? = some f' → u.toInt = (fs.length - 1 - i : Nat) → i < fs.length → w.toInt = fa f' → (F' (ca 3) (fs.length - 1 - i)).toInt = fl_ f' → ck_Fr S h0 h F' → ck_S ck oa nt cd im ca rw R0 cb iv F' cur fs (va_up ν k w) lo g p lc ty → Qr u (xb_W h F') bc bs) : w_Checker_checkLabel ck x (xb_W h F) bc bs Qr Qt := by
  obtain ⟨⟨s1, s2, s3, s4, s5, s6⟩, so, sf, s7, s8, s9, s10, s11, s12⟩ := id hS
  obtain ⟨-, -, ⟨r0, r1, r2, r3, ko, lo1, lo2⟩, hD, ⟨S1, S2, S3⟩, kck, kmd, ha, hN, ⟨knt, nnt, kcd, ncd⟩⟩ := id hH
  obtain ⟨⟨D1, D2, D3, D4⟩, ⟨D5, D6, D7⟩, D8, D9, D10, D11⟩ := id hD
  have a2 : xb_r h ck 11 = some (ca 2) ∧ xb_k h (ca 2) = 102 ∧ xb_n h (ca 2) = 201 ∧ S (ca 2) := ha 2 (by omega)
  have cx : x.toNatClampNeg = k := by rw [z_cl, hx]; omega
  unfold w_Checker_checkLabel
  refine ⟨kck, nt, r2, knt, by rw [z_in, hx, xW_n, nnt]; omega, ?_⟩
  rw [xW_i, s7, cx]
  refine sp_isThere (fun r6 e6 _ => ⟨fun f1 => ?_, fun _ => ⟨md, r0, kmd, cs_fail hT hH hF hc hb⟩⟩)
  rcases e6 with ⟨f2, -⟩ | ⟨-, f2, f3⟩
  · exact absurd f2 f1
  rw [Z_of32] at f2 f3
  rw [s6] at f3
  obtain ⟨i, hi⟩ : ∃ i : Nat, (ν k).toInt = i := ⟨(ν k).toInt.toNat, by omega⟩
  have hil : i < fs.length := by omega
  obtain ⟨f', b1, b2, b3, b4, b5⟩ := cf_o.at hil sf
  unfold w_Checker_checkLabel_L30
  refine ⟨kck, nt, r2, knt, by rw [z_in, hx, xW_n, nnt]; omega, fun v5 e5 => ?_⟩
  rw [xW_i, s7, cx] at e5
  have ev : v5.toInt = (fs.length - 1 - i : Nat) := by
    have e9 : (F ck 16 - 1).toInt = fs.length - 1 := by rw [z_sub, s6]; simp only [Int32.reduceToInt]; omega
    rw [e5, z_sub, e9, hi]
    omega
  have cv : v5.toNatClampNeg = fs.length - 1 - i := by rw [z_cl, ev]; omega
  refine ⟨nt, r2, ca 2, a2.1, a2.2.1, by rw [z_in, ev, xW_n, a2.2.2.1]; omega, knt, by rw [z_in, hx, xW_n, nnt]; omega, fun h12 e12 => ?_⟩
  rw [xW_i, xW_I, cx, cv] at e12
  subst e12
  refine hQ v5 _ i f' (F (ca 2) (fs.length - 1 - i)) hi b1 ev hil b3 ?_ (hF.up (.inr S3)) (hS.nt_ hD)
  rw [xh_up, if_neg (D9 3 (by omega)).2.2.1]
  exact b4
end CS3
