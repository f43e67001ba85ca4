-- the checker: a body
section CB2
variable {S : Nat → Prop} {h0 h : xb_H} {md rd op ck cd nt im N oa rc rs : Nat} {ca : Nat → Nat} {rw it n : Nat → Nat} {vs : Nat → Nat → Int64} {cb ν ν0 iv lo : Nat → Int32} {R0 F : Nat → Nat → Int32} {bc bs : Nat} {Qt : String → xb_H → Nat → Nat → Prop} {cur : List Int} {fs r : List ckF} {f : ckF} {g p lc ty : Int}
theorem ck_st.lv {q t lcn : Nat} {lv lv' : Bool} {op : Int} {cur' : List Int} {fs' : List ckF} {ν' : Nat → Int32} {g' : Int} (e : lv = lv') (h : ck_st n vs cb lo t lcn lv q op cur f r ν g cur' fs' ν' g') : ck_st n vs cb lo t lcn lv' q op cur f r ν g cur' fs' ν' g' := e ▸ h
theorem wk_sh3 {op : Int} (h : wk_sh op = 3) : op = 11 := by
  unfold wk_sh at h
  (repeat' split at h) <;> omega
/-- an instruction changes its own notes alone -/
theorem ck_st.off {q t lcn E m : Nat} {lv : Bool} {op : Int} {cur' : List Int} {fs' : List ckF} {ν' : Nat → Int32} {g' : Int} {st : List (Nat × Option Nat)} (h : ck_st n vs cb lo t lcn lv q op cur f r ν g cur' fs' ν' g') (hw : wk cb ν0 E m q st) (hop : (cb q).toInt % 256 = op) (e1 : ν (q + 1) = ν0 (q + 1)) (ho : 0 ≤ op ∧ op ≤ 255) (hsh : wk_sh op < 13) (j : Nat) (hj : j < q ∨ E ≤ j) : ν' j = ν j := by
  obtain ⟨K0, K1, K2, K3, K4, K5, K6, K7, K8, K9, K10, K11, K12, K13, K14, K15, K16, K17⟩ := h
  have hqE := hw.lt
  have hq1 : 4 ≤ wk_sh op → q + 1 < E ∧ (wk_sh op = 5 → (q : Int) + 2 + (ν (q + 1)).toInt < E) := fun h9 => by
    cases m with
    | zero => exact hw.elim
    | succ m =>
      unfold wk at hw
      rw [hop] at hw
      obtain ⟨q', -, u, u2, -⟩ := hw.2.2.2.2.2 h9
      have u1 := u.1
      refine ⟨by omega, fun h8 => ?_⟩
      have u3 := (u.2.1 h8).2
      rw [e1]
      omega
  rcases wk_cases ho.1 ho.2 hsh with h9 | h9 | h9 | h9 | h9 | h9 | h9 | h9 | h9 | h9 | h9 | h9 | h9 | h9 | h9 | h9 | h9 | h9
  · rw [(K0 h9).2.2.1]
  · rw [(K1 h9).2.2.1]
  · obtain ⟨w, -, -, -, -, e5, -⟩ := K2 h9.1 h9.2
    clear K0 K1 K2 K3 K4 K5 K6 K7 K8 K9 K10 K11 K12 K13 K14 K15 K16 K17
    rw [e5, xh_up, if_neg (by omega)]
  · rw [(K3 h9).2.2.2.1]
  · rw [(K4 h9).2.2.2.2]
  · obtain ⟨i, f', w, r2, c2, -, -, -, -, -, -, e5, -⟩ := K5 h9
    clear K0 K1 K2 K3 K4 K5 K6 K7 K8 K9 K10 K11 K12 K13 K14 K15 K16 K17
    have := (hq1 (by rw [h9]; decide)).1
    rw [e5, xh_up, if_neg (by omega)]
  · obtain ⟨i, f', w, c1, c2, r1, r2, -, -, -, -, -, -, -, e5⟩ := K6 h9
    clear K0 K1 K2 K3 K4 K5 K6 K7 K8 K9 K10 K11 K12 K13 K14 K15 K16 K17
    have := (hq1 (by rw [h9]; decide)).1
    rw [e5, xh_up, if_neg (by omega)]
  · obtain ⟨L, lab, c1, c2, r1, r2, e4, e5, -⟩ := K7 h9
    clear K0 K1 K2 K3 K4 K5 K6 K7 K8 K9 K10 K11 K12 K13 K14 K15 K16 K17
    have sh : wk_sh op = 5 := by rw [h9]; rfl
    have := (hq1 (by omega)).2 sh
    exact e5 j (by omega)
  · rw [(K8 h9).2.2.2.1]
  · obtain ⟨i, u, pa, P, c1, -, -, -, -, -, -, -, -, e5⟩ := K9 h9
    rw [e5]
  · obtain ⟨u, pa, P, c0, c1, r0, -, -, -, -, -, -, -, -, -, e5⟩ := K10 h9
    rw [e5]
  · rw [(K11 h9).2.2.1]
  · obtain ⟨c1, c2, c3, r3, r5, r7, -, -, -, -, -, e5⟩ := K12 h9
    rw [e5]
  · obtain ⟨i, pa, P, -, -, -, -, -, -, -, -, e5⟩ := K13 h9.1 h9.2
    rw [e5]
  · obtain ⟨i, -, -, -, -, -, e5⟩ := K14 h9.1 h9.2
    rw [e5]
  · obtain ⟨-, -, -, -, -, -, e5⟩ := K15 h9.1 h9.2
    rw [e5]
  · rw [(K16 h9.1 h9.2).2.2]
  · obtain ⟨i, c1, -, -, -, -, -, -, e5⟩ := K17 h9.1
    rw [e5]
/-- a body's loop -/
theorem cs_bodyLoop {x1 : Int32} {b t lcn p0 E : Nat} {Qr : xb_H → Nat → Nat → Prop} (hT : ck_T S h0 md rd op ck ca rc rs Qt) (hH : ck_H S h0 h md rd op ck cd nt im N oa ca rw it n vs cb iv R0) (hc : rc + 1 ≤ bc) (hb : rs + 6 ≤ bs) (hx : x1.toInt = b) (hb9 : 5 * b + 5 ≤ n 9) (hby : ∀ j, -128 ≤ (cb j).toInt ∧ (cb j).toInt ≤ 127)
    (hL : xr_L 5 (mp0 N cb) (n 0) (vs 0)) (ht : t < n 0 / 5) (hlc : lcn ≤ 1000) (hlo : ∀ j, j < lcn → 124 ≤ (lo j).toInt ∧ (lo j).toInt ≤ 127)
    (hv : ∀ i : Nat, i < n 5 / 4 → 4 * i + 4 ≤ n 5 ∧ 124 ≤ (vs 5 (4 * i + 1)).toInt ∧ (vs 5 (4 * i + 1)).toInt ≤ 127 ∧ ((vs 5 (4 * i + 2)).toInt = 0 ∨ (vs 5 (4 * i + 2)).toInt = 1))
    (hfn : ∀ i, i < n 2 / 2 → 2 * i + 2 ≤ n 2 ∧ 0 ≤ (vs 2 (2 * i + 1)).toInt ∧ (vs 2 (2 * i + 1)).toInt < (n 0 / 5 : Nat)) (hn0 : n 0 ≤ 2 * N) (hE : E ≤ N)
    (hQ : ∀ (F' : Nat → Nat → Int32) (g : Int) (ν' : Nat → Int32), ck_Fr S h0 h F' → ck_S0 nt cd im rw R0 cb iv ν' F' → ct_Z n vs cb lo t lcn p0 E ν0 ν' g → (∀ j, j < p0 ∨ E ≤ j → ν' j = ν j) → 0 ≤ g → g ≤ N → (F' ck 5).toInt = g → Qr (xb_L (xb_W h F') (it 9) (5 * b + 4) (F' ck 5).toInt64) bc bs) :
    ∀ (m : Nat) (x2 : Int32) (q : Nat) (F : Nat → Nat → Int32) (cur : List Int) (f : ckF) (r : List ckF) (st : List (Nat × Option Nat)) (ν' : Nat → Int32) (g : Int) (G : ctG), E - q ≤ m → 0 ≤ x2.toInt → x2.toInt + p0 ≤ q → ck_Fr S h0 h F → ck_S ck oa nt cd im ca rw R0 cb iv F cur (f :: r) ν' lo g q lcn t → ct_I n vs cb lo t lcn p0 E ν0 G ν' q cur f r st g → G 0 p0 [] [] → (∀ j, j < p0 ∨ E ≤ j → ν' j = ν j) → w_Checker_checkBody_L88 Qr Qt (m + 2) ck x1 x2 (xb_W h F) bc bs := by
  obtain ⟨-, hM', ⟨r0, r1, r2, r3, ko, lo1, lo2⟩, hD, ⟨S1, S2, S3⟩, kck, kmd, ha, hN, ⟨knt, nnt, kcd, ncd⟩⟩ := id hH
  have hNI := z_nI (n := N) (by omega)
  have L142 : ∀ (F' : Nat → Nat → Int32) (g : Int) (ν' : Nat → Int32), ck_Fr S h0 h F' → ck_S0 nt cd im rw R0 cb iv ν' F' → ct_Z n vs cb lo t lcn p0 E ν0 ν' g → (∀ j, j < p0 ∨ E ≤ j → ν' j = ν j) → 0 ≤ g → g ≤ N → (F' ck 5).toInt = g → w_Checker_checkBody_L142 Qr Qt ck x1 (xb_W h F') bc bs := by
    intro F' g ν' g1 g2 g3 g4 g5 g6 g7
    have hM := hH.S0 g2
    obtain ⟨e1, e2, e3, e4⟩ := md_ix hM (k := 9) (c := 5) (i := b) (j := 4) (x := x1) (y := 4) (by omega) rfl hx rfl (by omega) hb9
    obtain ⟨b1, b2, b3, b4, b5, b6, b7, b8⟩ := hM.ok (k := 9) (by omega)
    unfold w_Checker_checkBody_L142 w_Row_setAt
    refine ⟨kck, md, r0, kmd, rw 9, hM.row (k := 9) (by omega), b1, b1, it 9, b4, b5, by rw [z_in, e1]; omega, fun h5 e5 _ => ?_⟩
    rw [z_cl, e1, Int.toNat_natCast, xW_i] at e5
    rw [e5]
    exact hQ F' g ν' g1 g2 g3 g4 g5 g6 g7
  intro m
  induction m with
  | zero =>
    intro x2 q F cur f r st ν' g G hm hx0 hxp hF hS hI h0' hout
    obtain ⟨-, -, -, -, -, -, -, m, hm'⟩ := id hI
    have := hm'.lt
    omega
  | succ m ih =>
    intro x2 q F cur f r st ν' g G hm hx0 hxp hF hS hI h0' hout
    obtain ⟨⟨a1, a2, a3, a4⟩, ⟨t1, ⟨ex, t2⟩, t3, t4, t5, t6, t7⟩, a6, a7, a8, a9, a10, mm, a11⟩ := id hI
    have hqE := a11.lt
    have mE : ∀ q' : Nat, q < q' → E - q' ≤ m := fun q' h9 => by omega
    have mx : ∀ (q' : Nat) (z : Int), q < q' → z = x2.toInt + 1 → 0 ≤ z ∧ z + p0 ≤ q' := fun q' z h9 h8 => by omega
    obtain ⟨⟨s1, s2, s3, s4, s5, s6⟩, so, sf, s7, s8, s9, s10, s11, s12⟩ := id hS
    have hbq := hby q
    have hres := (ty_ty hL ht).1
    have hlab := a4.lab hres
    have hlen := a4.len
    have c9 : (F ck 9).toNatClampNeg = q := by rw [z_cl, s5]; omega
    have ev : (cb q &&& 255).toInt = (cb q).toInt % 256 := z_255 (cb q)
    unfold w_Checker_checkBody_L88
    refine ⟨kck, cd, r1, kcd, fun e => ?_, fun e => ⟨fun e2 => ?_, fun e2 => ⟨cd, r1, kcd, by rw [z_in, xW_i, s5, xW_n, ncd]; omega, ?_⟩⟩⟩
    · rw [xW_n, ncd, z_le, hNI] at e
      omega
    · rw [z_le, xW_i, s6] at e2
      simp only [Int32.reduceToInt, List.length_cons] at e2
      omega
    · rw [xW_i, c9, s9]
      obtain ⟨op, hop⟩ : ∃ op : Int, (cb q).toInt % 256 = op := ⟨_, rfl⟩
      rw [hop] at ev
      have hwk : wk_sh op < 13 ∧ (wk_sh op = 1 ∨ 4 ≤ wk_sh op → q + 1 < N) ∧ (wk_sh op = 1 → st.length < 200) ∧ (op = 14 → ∃ L : Nat, (ν' (q + 1)).toInt = L ∧ q + 2 + L < N) := by
        cases mm with
        | zero => exact a11.elim
        | succ mm =>
          unfold wk at a11
          rw [hop] at a11
          obtain ⟨w0, w1, w2, w3, w4, w5⟩ := a11
          refine ⟨?_, fun h9 => ?_, fun h9 => (w2 h9).2.2.1, fun h9 => ?_⟩
          · by_cases h9 : 4 ≤ wk_sh op
            · obtain ⟨q', -, u, -⟩ := w5 h9
              exact u.2.2.2
            · omega
          · rcases h9 with h9 | h9
            · have := (w2 h9).1
              omega
            · obtain ⟨q', -, u, u2, -⟩ := w5 h9
              have := u.1
              omega
          · have sh : wk_sh op = 5 := by rw [h9]; rfl
            obtain ⟨q', -, u, u2, -⟩ := w5 (by omega)
            obtain ⟨u3, u4⟩ := u.2.1 sh
            rw [a9 (q + 1) (by omega)]
            exact ⟨(ν0 (q + 1)).toInt.toNat, by omega, by omega⟩
      obtain ⟨k1, k2, k3, k4⟩ := hwk
      have o255 : 0 ≤ op ∧ op ≤ 255 := by omega
      have o191 : op ≤ 191 := by
        rcases wk_cases o255.1 o255.2 k1 with h | h | h | h | h | h | h | h | h | h | h | h | h | h | h | h | h | h <;> omega
      refine cs_checkInstruction (q := q) (t := t) (lcn := lcn) (ex := ex) (if op = 5 then fv f else lvb f) hT hH hF hc hb hS (by omega) (by omega) (by rw [hlen]; omega) t2 t1 (fun y hy => (hlab y hy).1) (hlab f List.mem_cons_self).2 hL ht hlc hlo hv hfn hn0 (by rw [ev]; omega) (by rw [ev]; omega) (by rw [ev]; omega) (by rw [ev]; exact k2) (by rw [ev]; intro h9; rw [hlen]; have := k3 h9; omega) (by rw [ev]; exact k4) (fun F' cur' fs' ν2 g' hst hF' hS' _ => ?_)
      rw [ev] at hst
      have hout2 : ∀ j, j < p0 ∨ E ≤ j → ν2 j = ν' j → ν2 j = ν j := fun j h1 h2 => h2.trans (hout j h1)
      obtain ⟨⟨s1', s2', s3', s4', s5', s6'⟩, so', sf', s7', s8', s9', s10', s11', s12'⟩ := id hS'
      have hM2 := hM' F' ν2 s7' s9' s10' s11'
      have hd0 := ct_step hby hL ht hlo (fun i hi => ⟨(hv i hi).2.1, (hv i hi).2.2.1⟩) (fun i hi => (hfn i hi).2.2) hI h0' hop hst
      have hoff : ∀ j, j < p0 ∨ E ≤ j → ν2 j = ν' j := fun j hj => ck_st.off hst a11 hop (a9 (q + 1) (by omega)) o255 k1 j (hj.elim (fun h9 => .inl (by omega)) .inr)
      have hout3 : ∀ j, j < p0 ∨ E ≤ j → ν2 j = ν j := fun j hj => hout2 j hj (hoff j hj)
      refine ⟨md, r0, kmd, md_nextPlace (q := q) hM2 (by rw [xW_i, s5']) (.inr (by omega)) (fun y y1 y2 y3 _ h15 e15 => ?_)⟩
      rw [hop] at y1 y2 y3
      rw [xW_I] at e15
      subst e15
      have ex2 : (x2 + 1).toInt = x2.toInt + 1 := by rw [z_add]; simp only [Int32.reduceToInt]; omega
      have hS3 : ∀ (fs' : List ckF) (q' : Nat), y.toInt = q' → ck_S ck oa nt cd im ca rw R0 cb iv F' cur' fs' ν2 lo g' q lcn t → ck_S ck oa nt cd im ca rw R0 cb iv (va_up F' ck (va_up (F' ck) 9 y)) cur' fs' ν2 lo g' q' lcn t := by
        intro fs' q' hy hS9
        obtain ⟨⟨z1, z2, z3, z4, z5, z6⟩, zo, zf, z7, z8, z9, z10, z11, z12⟩ := id hS9
        exact hS9.upk hD ⟨by rw [xh_up, if_neg (by omega)]; exact z1, by rw [xh_up, if_neg (by omega)]; exact z2, by rw [xh_up, if_neg (by omega)]; exact z3, by rw [xh_up, if_neg (by omega)]; exact z4, by rw [xh_up, if_pos rfl]; exact hy, by rw [xh_up, if_neg (by omega)]; exact z6⟩ zo zf z12
      rcases hd0 with ⟨d1, d2, d3, d4⟩ | ⟨f', r', G', st', q', d1, d2, d3, d4, d5, d6, d7⟩
      · subst d1
        have hS4 := hS3 [] (q + 1) (by rw [y1 (by omega)]; omega) hS'
        have hF4 := hF'.up (f := va_up (F' ck) 9 y) (.inl S1)
        have hg' : 0 ≤ g' ∧ g' ≤ N := by
          obtain ⟨-, -, -, -, K4, -⟩ := hst
          have h11 : op = 11 := wk_sh3 d3
          obtain ⟨-, -, kp, -, -⟩ := K4 h11
          have hfb : (fb f).length ≤ cur.length := by rw [t2, List.length_append]; omega
          rcases kp with ⟨-, -, e5⟩ | ⟨-, -, e5⟩ <;> omega
        have fin : w_Checker_checkBody_L142 Qr Qt ck x1 (xb_W h (va_up F' ck (va_up (F' ck) 9 y))) bc bs := L142 _ g' ν2 hF4 hS4.S0 d4 hout3 hg'.1 hg'.2 (by rw [xh_up, if_pos rfl, xh_up, if_neg (by omega)]; exact s2')
        unfold w_Checker_checkBody_L88
        refine ⟨kck, cd, r1, kcd, fun _ => fin, fun _ => ⟨fun _ => fin, fun e9 => ?_⟩⟩
        rw [z_le, xW_i, hS4.1.2.2.2.2.2] at e9
        simp at e9
      · subst d1
        have hyq : y.toInt = q' := by
          by_cases h9 : wk_sh op = 0 ∨ wk_sh op = 2 ∨ wk_sh op = 3
          · rw [y1 h9, d5 h9]; omega
          · by_cases h8 : wk_sh op = 1
            · rw [y2 h8, d6 h8]; omega
            · rw [y3 (by omega)]
              exact d7 (by omega)
        have hS4 := hS3 _ q' hyq hS'
        have hF4 := hF'.up (f := va_up (F' ck) 9 y) (.inl S1)
        exact ih (x2 + 1) q' _ cur' f' r' st' ν2 g' G' (mE q' d4) (mx q' _ d4 ex2).1 (mx q' _ d4 ex2).2 hF4 hS4 d2 d3 hout3
end CB2
