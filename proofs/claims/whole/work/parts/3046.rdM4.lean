-- the reader: elements, locals, bodies
section RDP
variable {h0 h : xb_H} {rd op md cd nt im N M rc rs : Nat} {rw : Nat → Nat} {cb : Nat → Int32} {it n : Nat → Nat} {vs : Nat → Nat → Int64} {ν iv : Nat → Int32} {a : Nat} {l : Int} {bc bs : Nat} {Qt : String → xb_H → Nat → Nat → Prop}
theorem md_K.d {b : Nat} (hI : md_K N cb n vs ν iv b a) : (∃ m, n 8 = 2 * m) ∧ (∃ m, n 10 = 2 * m) ∧ (∃ m, n 9 = 5 * m) ∧ (∃ m, n 2 = 2 * m) := by
  obtain ⟨en, c0, c1, c2, c3, c4, c5, c6, c7, c8, c9, c10, c11, -⟩ := hI
  obtain ⟨m8, e8, -⟩ := c8
  obtain ⟨m10, e10, -⟩ := c10
  obtain ⟨m9, e9, -⟩ := c9
  obtain ⟨m2, e2, -⟩ := c2
  exact ⟨⟨m8, e8⟩, ⟨m10, e10⟩, ⟨m9, e9⟩, ⟨m2, e2⟩⟩
theorem md_I.d (hI : md_I N cb n vs ν iv a) : (∃ m, n 8 = 2 * m) ∧ (∃ m, n 10 = 2 * m) ∧ (∃ m, n 9 = 5 * m) ∧ (∃ m, n 2 = 2 * m) := md_K.d hI
theorem rdG_readElements_L97 {Qr : xb_H → Nat → Nat → Prop} {x1 : Int64} {n0 : Nat → Nat} {q0 b0 : Nat} (hT : rd_T h0 rd op md rc rs Qt) (hM : 2 * N + 20 ≤ M) (hM2 : M ≤ 1000000) (hx1 : x1.toInt < 4294967296)
    (hQ : ∀ (h' : xb_H) (it' n' : Nat → Nat) (vs' : Nat → Nat → Int64) (q bc' bs' : Nat), q0 ≤ q → rd_G h0 h' rd op md cd nt im N M rc rs rw cb it' n' vs' ν iv q l bc' bs' → md_K N cb (va_up n' 7 (n0 7)) vs' ν iv b0 q → n' 7 = n0 7 + 5 → (n' 8 : Int) = n0 8 + 2 * x1.toInt → (∀ j, j ≠ 7 → n0 j ≤ n' j) → vs' 7 = vs 7 → Qr h' bc' bs') :
    ∀ (m : Nat) (x3 : Int64) (h : xb_H) (it n : Nat → Nat) (vs' : Nat → Nat → Int64) (a bc bs : Nat), rd_G h0 h rd op md cd nt im N M rc rs rw cb it n vs' ν iv a l bc bs → q0 ≤ a → md_K N cb (va_up n 7 (n0 7)) vs' ν iv b0 a → n 7 = n0 7 + 5 → 0 ≤ x3.toInt → x3.toInt ≤ x1.toInt → (n 8 : Int) = n0 8 + 2 * x3.toInt → (∀ j, j ≠ 7 → n0 j ≤ n j) → vs' 7 = vs 7 → l - a ≤ m → w_Reader_readElements_L97 Qr Qt (m + 1) rd x1 x3 h bc bs
  | m, x3, h, it, n, vs', a, bc, bs, hG, hq0, hI, h7, hx0, hx3, h8, hmon, hv7, hm => by
    have hal := hG.al
    have hn8 := hI.nk (k := 8) (by omega)
    rw [xh_up, if_neg (by omega)] at hn8
    unfold w_Reader_readElements_L97
    refine ⟨fun e => ?_, fun e => ⟨hG.krd, md, hG.rmd, hG.kmd, rw 8, hG.row (by omega), hG.krow (by omega), hG.addA (by omega) (xr_A.rf 8 n vs') (by simp; omega) hM2 (fun h1 it1 n1 vs1 bc1 bs1 hG1 hA1 _ => ?_)⟩⟩
    · rw [Z_le] at e
      exact hQ h it n vs' a bc bs hq0 hG hI h7 (by omega) hmon hv7
    · rw [Z_le] at e
      refine ⟨md, hG1.rmd, hG1.kmd, rw 8, hG1.row (by omega), rdG_count hT hG1 (fun r h2 q2 b1 b2 hG2 _ => ⟨hG2.krow (by omega), hG2.addA (by omega) hA1 (by simp; omega) hM2 (fun h3 it3 n3 vs3 bc3 bs3 hG3 hA3 _ v17 e17 => ?_)⟩)⟩
      have e3 : v17.toInt = x3.toInt + 1 := by
        rw [e17, Z_add]
        simp only [Int64.reduceToInt]
        omega
      have hA4 : xr_A 8 (va_up n 7 (n0 7)) vs' (va_up n3 7 (n0 7)) vs3 ([] ++ [Int32.toInt64 (xb_i h rd 3)] ++ [r.toInt64 &&& 4294967295]) := by
        obtain ⟨a1, a2, a3, a4⟩ := hA3
        refine ⟨by rw [xh_up, if_neg (by omega), xh_up, if_neg (by omega)]; exact a1, fun j hj => ?_, fun i hi => a3 i (by rw [xh_up, if_neg (by omega)] at hi; exact hi), fun i hi => by rw [xh_up, if_neg (by omega)]; exact a4 i hi⟩
        refine ⟨?_, (a2 j hj).2⟩
        rw [xh_up, xh_up]
        split
        · rfl
        · exact (a2 j hj).1
      match m, hm with
      | 0, hm => omega
      | m + 1, hm =>
        refine rdG_readElements_L97 hT hM hM2 hx1 hQ m v17 h3 it3 n3 vs3 q2 bc3 bs3 hG3 (by omega) ((hI.at (a' := q2) (by omega)).a8 hA4 (by simp) (by rw [xh_up, if_neg (by omega)]; omega) ?_) (by rw [(hA3.2.1 7 (by omega)).1]; exact h7) (by omega) (by omega) (by rw [hA3.1]; simp; omega) (fun j hj => ?_) (by rw [(hA3.2.1 7 (by omega)).2]; exact hv7) (by omega)
        · unfold mp2
          simp only [List.nil_append, List.cons_append, List.getD_cons_zero, List.getD_cons_succ, Z_of32, Z_low, hG.iat]
          exact ⟨by omega, by omega, by omega, by omega⟩
        · have := hmon j hj
          by_cases e8 : j = 8
          · subst e8
            rw [hA3.1]
            omega
          · rw [(hA3.2.1 j e8).1]
            exact this
theorem xr_A.cut {k : Nat} {n n1 : Nat → Nat} {vs vs1 : Nat → Nat → Int64} {L : List Int64} (hA : xr_A k n vs n1 vs1 L) : va_up n1 k (n k) = n := by
  funext j
  rw [xh_up]
  split
  · rename_i e
    rw [e]
  · rename_i e
    exact (hA.2.1 j e).1
theorem md_K.pre {k b : Nat} {n1 : Nat → Nat} {vs1 : Nat → Nat → Int64} {L : List Int64} (hk : k = 7 ∨ k = 9) (hI : md_K N cb n vs ν iv b a) (hA : xr_A k n vs n1 vs1 L) : md_K N cb (va_up n1 k (n k)) vs1 ν iv b a := by
  rw [hA.cut]
  have hv : ∀ j, j ≠ k → vs1 j = vs j := fun j hj => (hA.2.1 j hj).2
  have keep : ∀ (c : Nat) (P : Nat → (Nat → Int) → Prop), 0 < c → (∀ i w w', (∀ j, j < c → w j = w' j) → P i w → P i w') → xr_L c P (n k) (vs k) → xr_L c P (n k) (vs1 k) := by
    intro c P h0 hp ⟨m, e1, e2⟩
    refine ⟨m, e1, fun i hi => hp i _ _ (fun j hj => ?_) (e2 i hi)⟩
    have h3 : c * (i + 1) ≤ c * m := Nat.mul_le_mul_left c (by omega)
    rw [Nat.mul_succ] at h3
    rw [hA.2.2.1 _ (by omega)]
  have dj : ∀ k' i p, md_V n vs1 iv k' i p → md_V n vs iv k' i p := by
    intro k' i p ⟨h1, h2, h3, h4⟩
    refine ⟨h1, h2, h3, ?_⟩
    by_cases e : k' = k
    · subst e
      have ho : md_off k' < xr_c k' := by rcases h1 with rfl | rfl | rfl | rfl <;> decide
      rw [← hA.2.2.1 _ (by omega)]
      exact h4
    · rw [← hv k' e]
      exact h4
  obtain ⟨en, c0, c1, c2, c3, c4, c5, c6, c7, c8, c9, c10, c11, e1, e3, e4, e5, e6, e7⟩ := hI
  rcases hk with rfl | rfl
  · exact ⟨en, by rw [hv 0 (by omega)]; exact c0, by rw [hv 1 (by omega)]; exact c1, by rw [hv 2 (by omega)]; exact c2, by rw [hv 3 (by omega)]; exact c3, by rw [hv 4 (by omega)]; exact c4, by rw [hv 5 (by omega)]; exact c5, by rw [hv 6 (by omega)]; exact c6, keep 5 _ (by omega) mp7_c c7, by rw [hv 8 (by omega)]; exact c8, by rw [hv 9 (by omega), hv 10 (by omega)]; exact c9, by rw [hv 10 (by omega)]; exact c10, by rw [hv 11 (by omega)]; exact c11, by rw [hv 1 (by omega)]; exact e1, e3, e4, e5, e6, e7.keep dj⟩
  · exact ⟨en, by rw [hv 0 (by omega)]; exact c0, by rw [hv 1 (by omega)]; exact c1, by rw [hv 2 (by omega)]; exact c2, by rw [hv 3 (by omega)]; exact c3, by rw [hv 4 (by omega)]; exact c4, by rw [hv 5 (by omega)]; exact c5, by rw [hv 6 (by omega)]; exact c6, by rw [hv 7 (by omega)]; exact c7, by rw [hv 8 (by omega)]; exact c8, by rw [hv 10 (by omega)]; exact keep 5 _ (by omega) mp9_c c9, by rw [hv 10 (by omega)]; exact c10, by rw [hv 11 (by omega)]; exact c11, by rw [hv 1 (by omega)]; exact e1, e3, e4, e5, e6, e7.keep dj⟩
theorem rdG_readElements {Qr : xb_H → Nat → Nat → Prop} (hT : rd_T h0 rd op md rc rs Qt) (hG : rd_G h0 h rd op md cd nt im N M rc rs rw cb it n vs ν iv a l bc bs) (hI : md_I N cb n vs ν iv a) (hby : ∀ j, -128 ≤ (cb j).toInt ∧ (cb j).toInt ≤ 127) (hM : 2 * N + 20 ≤ M) (hM2 : M ≤ 1000000)
    (hQ : ∀ (h' : xb_H) (it' n' : Nat → Nat) (vs' : Nat → Nat → Int64) (ν' : Nat → Int32) (q bc' bs' : Nat), a < q → rd_G h0 h' rd op md cd nt im N M rc rs rw cb it' n' vs' ν' iv q l bc' bs' → md_I N cb n' vs' ν' iv q → (∀ j, n j ≤ n' j) → Qr h' bc' bs') : w_Reader_readElements rd h bc bs Qr Qt := by
  unfold w_Reader_readElements
  have hal := hG.al
  have hn := hI.nk (k := 7) (by omega)
  have h8 := hI.ge8
  obtain ⟨⟨m8, hm8⟩, -⟩ := hI.d
  refine ⟨hG.krd, md, hG.rmd, hG.kmd, rw 7, hG.row (by omega), hG.krow (by omega), hG.addA (by omega) (xr_A.rf 7 n vs) (by simp; omega) hM2 (fun h1 it1 n1 vs1 bc1 bs1 hG1 hA1 _ => ?_)⟩
  refine ⟨md, hG1.rmd, hG1.kmd, rw 7, hG1.row (by omega), rdG_count hT hG1 (fun r12 h2 q2 b1 b2 hG2 _ => ⟨hG2.krow (by omega), hG2.addA (by omega) hA1 (by simp; omega) hM2 (fun h3 it3 n3 vs3 bc3 bs3 hG3 hA3 _ => ?_)⟩)⟩
  refine ⟨md, hG3.rmd, hG3.kmd, rw 7, hG3.row (by omega), hG3.krow (by omega), hG3.addA (by omega) hA3 (by simp; omega) hM2 (fun h4 it4 n4 vs4 bc4 bs4 hG4 hA4 _ => ?_)⟩
  refine rdG_readExpression hT hG4 hby (by omega) (fun j hj => hI.z j (by omega)) (fun h5 ν' q5 c1 c2 c3 c4 c5 hG5 _ => rdG_count hT hG5 (fun r25 h6 q6 d1 d2 hG6 _ v26 e26 => ?_))
  have n48 : n4 8 = 2 * m8 := by rw [(hA4.2.1 8 (by omega)).1]; exact hm8
  have hrow8 : xr_row h6 (rw 8) 2 (n4 8) (it4 8) := hG6.rowOk (k := 8) (by omega)
  refine ⟨md, hG6.rmd, hG6.kmd, rw 7, hG6.row (by omega), md, hG6.rmd, hG6.kmd, rw 8, hG6.row (by omega), hG6.krow (by omega), sp_Row_lines hrow8 (by omega) (fun r35 e35 _ => ⟨hG6.krow (by omega), hG6.addA (by omega) hA4 (by simp; omega) hM2 (fun h7 it7 n7 vs7 bc7 bs7 hG7 hA7 _ => ?_)⟩)⟩
  refine ⟨md, hG7.rmd, hG7.kmd, rw 7, hG7.row (by omega), hG7.krow (by omega), hG7.addA (by omega) hA7 (by simp; omega) hM2 (fun h9 it9 n9 vs9 bc9 bs9 hG9 hA9 _ => ⟨(l - q6).toNat + 1, ?_⟩)⟩
  have ev : v26.toInt = r25.toInt % 4294967296 := by rw [e26, Z_low, Z_of32]
  have n98 : n9 8 = 2 * m8 := by rw [(hA9.2.1 8 (by omega)).1]; exact hm8
  have n97 : n9 7 = n 7 + 5 := by rw [hA9.1]; simp
  have hI9 : md_K N cb (va_up n9 7 (n 7)) vs9 ν' iv a q6 := (hI.ex (a' := q6) (ν' := ν') (by omega) (fun j hj => c3 j (by omega)) (fun j hj => c4 j (by omega))).pre (.inl rfl) hA9
  refine rdG_readElements_L97 (vs := vs9) (n0 := n) (q0 := q6) (b0 := a) hT hM hM2 (by omega) (fun h' it' n' vs' q bc' bs' f1 hG' f2 f3 f4 f5 f6 => ?_) _ 0 h9 it9 n9 vs9 q6 bc9 bs9 hG9 (Nat.le_refl q6) hI9 n97 (by simp) (by simp only [Int64.reduceToInt]; omega) (by simp only [Int64.reduceToInt]; omega) (fun j hj => by rw [(hA9.2.1 j hj).1]; omega) rfl (by omega)
  have hA' : xr_A 7 (va_up n' 7 (n 7)) vs' n' vs' ([] ++ [Int32.toInt64 (xb_i h rd 3)] ++ [r12.toInt64 &&& 4294967295] ++ [Int32.toInt64 (xb_i h3 rd 3)] ++ [Int32.toInt64 r35] ++ [v26]) := by
    refine ⟨by rw [xh_up, if_pos rfl, f3]; simp, fun j hj => ⟨by rw [xh_up, if_neg hj], rfl⟩, fun _ _ => rfl, fun i hi => ?_⟩
    rw [xh_up, if_pos rfl, f6]
    exact hA9.2.2.2 i hi
  refine hQ h' it' n' vs' ν' q bc' bs' (by omega) hG' (f2.x7 (p := q2) (e := q5) (b' := q) hA' (by simp) (by rw [xh_up, if_pos rfl]; omega) (by omega) c1 (by omega) (Nat.le_refl q) ?_ c5 (fun en hm => ?_)) (fun j => ?_)
  · simp only [List.nil_append, List.cons_append, List.getD_cons_zero, List.getD_cons_succ, Z_of32, hG3.iat]
  · unfold mp7
    have e8 : va_up n' 7 (n 7) 8 = n' 8 := by rw [xh_up, if_neg (by omega)]
    rw [e8]
    simp only [List.nil_append, List.cons_append, List.getD_cons_zero, List.getD_cons_succ, Z_of32, Z_low, hG.iat, hG3.iat, e35, ev]
    exact ⟨by omega, by omega, by omega, by omega, hm, by omega, by omega, by omega⟩
  · by_cases e : j = 7
    · rw [e, f3]
      omega
    · exact f5 j e
theorem rdG_readLocals_L15 {Qr : Int32 → xb_H → Nat → Nat → Prop} {x1 : Int64} {q0 f0 : Nat} {n0 : Nat → Nat} (hT : rd_T h0 rd op md rc rs Qt) (hby : ∀ j, -128 ≤ (cb j).toInt ∧ (cb j).toInt ≤ 127) (hM : 2 * N + 20 ≤ M) (hM2 : M ≤ 1000000) (hf0 : n0 10 = 2 * f0)
    (hQ : ∀ (u : Int32) (h' : xb_H) (it' n' : Nat → Nat) (vs' : Nat → Nat → Int64) (q bc' bs' g : Nat), q0 ≤ q → rd_G h0 h' rd op md cd nt im N M rc rs rw cb it' n' vs' ν iv q l bc' bs' → md_I N cb n' vs' ν iv q → n' 10 = n0 10 + 2 * g → (∀ j, j ≠ 10 → n' j = n0 j) → u.toInt = gsum (vs' 10) f0 g → 0 ≤ u.toInt → u.toInt ≤ 1000 → Qr u h' bc' bs') :
    ∀ (m : Nat) (x3 x5 : Int64) (h : xb_H) (it n : Nat → Nat) (vs : Nat → Nat → Int64) (a bc bs g : Nat), rd_G h0 h rd op md cd nt im N M rc rs rw cb it n vs ν iv a l bc bs → q0 ≤ a → md_I N cb n vs ν iv a → n 10 = n0 10 + 2 * g → (∀ j, j ≠ 10 → n j = n0 j) → x3.toInt = gsum (vs 10) f0 g → 0 ≤ x3.toInt → x3.toInt ≤ 1000 → l - a ≤ m → w_Reader_readLocals_L15 Qr Qt (m + 1) rd x1 x3 x5 h bc bs
  | m, x3, x5, h, it, n, vs, a, bc, bs, g, hG, hq0, hI, h10, hoth, hsum, h30, h31, hm => by
    have hal := hG.al
    have hn10 := hI.nk (k := 10) (by omega)
    unfold w_Reader_readLocals_L15
    refine ⟨fun e => ?_, fun e => ⟨hG.krd, fun v3 _ => rdG_count hT hG (fun r5 h4 q4 b1 b2 hG4 _ v6 e6 v7 e7 => ⟨fun e8 => ?_, fun _ => ⟨md, hG4.rmd, hG4.kmd, sp_fail hT hG4.X hG4.c hG4.b⟩⟩)⟩⟩
    · have e9 : x3.toInt32.toInt = x3.toInt := by rw [z_of64]; omega
      exact hQ _ h it n vs a bc bs g hq0 hG hI h10 hoth (by rw [e9]; exact hsum) (by omega) (by omega)
    · have ev6 : v6.toInt = r5.toInt % 4294967296 := by rw [e6, Z_low, Z_of32]
      have ev7 : v7.toInt = x3.toInt + v6.toInt := by rw [e7, Z_add]; omega
      rw [Z_le] at e8
      simp only [Int64.reduceToInt] at e8
      unfold w_Reader_readLocals_L63
      refine ⟨hG4.krd, md, hG4.rmd, hG4.kmd, rw 10, hG4.row (by omega), hG4.krow (by omega), hG4.addA (by omega) (xr_A.rf 10 n vs) (by simp; omega) hM2 (fun h5 it5 n5 vs5 bc5 bs5 hG5 hA5 _ => ?_)⟩
      refine ⟨md, hG5.rmd, hG5.kmd, rw 10, hG5.row (by omega), rdG_valueType hT hG5 hby (fun r12 h11 c1 c2 c3 c4 hG11 _ => ⟨hG11.krow (by omega), hG11.addA (by omega) hA5 (by simp; omega) hM2 (fun h14 it14 n14 vs14 bc14 bs14 hG14 hA14 _ v16 _ => ?_)⟩)⟩
      match m, hm with
      | 0, hm => omega
      | m + 1, hm =>
        refine rdG_readLocals_L15 hT hby hM hM2 hf0 hQ m v7 v16 h14 it14 n14 vs14 (q4 + 1) bc14 bs14 (g + 1) hG14 (by omega) ((hI.at (a' := q4 + 1) (by omega)).a10 hA14 (by simp) (by omega) ?_).cl (by rw [hA14.1]; simp; omega) (fun j hj => by rw [(hA14.2.1 j hj).1]; exact hoth j hj) ?_ (by omega) (by omega) (by omega)
        · unfold mp10
          simp only [List.nil_append, List.cons_append, List.getD_cons_zero, List.getD_cons_succ, Z_of32, ev6]
          exact ⟨by omega, by omega, c1, c2⟩
        · unfold gsum
          rw [gsum_congr g (fun j hj => hA14.2.2.1 j (by omega)), ← hsum, ev7]
          have h9 := hA14.2.2.2 0 (by simp)
          simp only [List.nil_append, List.cons_append, List.getD_cons_zero] at h9
          rw [show 2 * (f0 + g) = n 10 + 0 by omega, h9]
theorem rdG_readLocals {Qr : Int32 → xb_H → Nat → Nat → Prop} {f0 : Nat} (hT : rd_T h0 rd op md rc rs Qt) (hG : rd_G h0 h rd op md cd nt im N M rc rs rw cb it n vs ν iv a l bc bs) (hI : md_I N cb n vs ν iv a) (hby : ∀ j, -128 ≤ (cb j).toInt ∧ (cb j).toInt ≤ 127) (hM : 2 * N + 20 ≤ M) (hM2 : M ≤ 1000000) (hf0 : n 10 = 2 * f0)
    (hQ : ∀ (u : Int32) (h' : xb_H) (it' n' : Nat → Nat) (vs' : Nat → Nat → Int64) (q bc' bs' g : Nat), a < q → rd_G h0 h' rd op md cd nt im N M rc rs rw cb it' n' vs' ν iv q l bc' bs' → md_I N cb n' vs' ν iv q → n' 10 = n 10 + 2 * g → (∀ j, j ≠ 10 → n' j = n j) → u.toInt = gsum (vs' 10) f0 g → 0 ≤ u.toInt → u.toInt ≤ 1000 → Qr u h' bc' bs') : w_Reader_readLocals rd h bc bs Qr Qt := by
  unfold w_Reader_readLocals
  refine ⟨hG.krd, rdG_count hT hG (fun r3 h2 q2 b1 b2 hG2 _ v4 _ => ⟨(l - q2).toNat + 1, ?_⟩)⟩
  exact rdG_readLocals_L15 (q0 := a + 1) (n0 := n) hT hby hM hM2 hf0 (fun u h' it' n' vs' q bc' bs' g g1 => hQ u h' it' n' vs' q bc' bs' g (by omega)) _ 0 0 h2 it n vs q2 bc bs 0 hG2 (by omega) (hI.at (by omega)).cl (by omega) (fun j _ => rfl) rfl (by simp) (by simp) (by omega)
theorem rdG_readBody {Qr : xb_H → Nat → Nat → Prop} (hT : rd_T h0 rd op md rc rs Qt) (hG : rd_G h0 h rd op md cd nt im N M rc rs rw cb it n vs ν iv a l bc bs) (hI : md_I N cb n vs ν iv a) (hby : ∀ j, -128 ≤ (cb j).toInt ∧ (cb j).toInt ≤ 127) (hM : 2 * N + 20 ≤ M) (hM2 : M ≤ 1000000)
    (hQ : ∀ (h' : xb_H) (it' n' : Nat → Nat) (vs' : Nat → Nat → Int64) (ν' : Nat → Int32) (q bc' bs' : Nat), a < q → rd_G h0 h' rd op md cd nt im N M rc rs rw cb it' n' vs' ν' iv q l bc' bs' → md_I N cb n' vs' ν' iv q → (∀ j, n j ≤ n' j) → Qr h' bc' bs') : w_Reader_readBody rd h bc bs Qr Qt := by
  unfold w_Reader_readBody
  have hal := hG.al
  obtain ⟨-, ⟨f0, hf0⟩, -⟩ := hI.d
  refine ⟨hG.krd, fun v2 e2 => rdG_count hT hG (fun r4 h3 q3 b1 b2 hG3 _ => sp_Reader_limitTo hT hG3.X hG3.s hG3.c hG3.b (fun v c1 c2 c3 _ => ?_))⟩
  have hG5 := hG3.lim (v := v) (by omega) (by omega)
  obtain ⟨h5, e5⟩ : ∃ h5, h5 = xb_I h3 rd 4 v := ⟨_, rfl⟩
  rw [← e5] at hG5 ⊢
  have hrow10 : xr_row h5 (rw 10) 2 (n 10) (it 10) := hG5.rowOk (k := 10) (by omega)
  refine ⟨md, hG5.rmd, hG5.kmd, rw 10, hG5.row (by omega), hG5.krow (by omega), sp_Row_lines hrow10 (by omega) (fun r12 e12 _ => ?_)⟩
  refine rdG_readLocals hT hG5 (hI.at (by omega)).cl hby hM hM2 hf0 (fun r14 h13 it13 n13 vs13 q13 bc13 bs13 g d1 hG13 hI13 d2 d3 d4 d5 d6 _ => ?_)
  have hal13 := hG13.al
  have hn9 := hI13.nk (k := 9) (by omega)
  have h89 := hI13.ge8
  refine ⟨md, hG13.rmd, hG13.kmd, rw 9, hG13.row (by omega), hG13.krow (by omega), hG13.addA (by omega) (xr_A.rf 9 n13 vs13) (by simp; omega) hM2 (fun h14 it14 n14 vs14 bc14 bs14 hG14 hA14 _ => ?_)⟩
  refine ⟨md, hG14.rmd, hG14.kmd, rw 9, hG14.row (by omega), hG14.krow (by omega), hG14.addA (by omega) hA14 (by simp; omega) hM2 (fun h15 it15 n15 vs15 bc15 bs15 hG15 hA15 _ => ?_)⟩
  refine ⟨md, hG15.rmd, hG15.kmd, rw 9, hG15.row (by omega), hG15.krow (by omega), hG15.addA (by omega) hA15 (by simp; omega) hM2 (fun h16 it16 n16 vs16 bc16 bs16 hG16 hA16 _ => ?_)⟩
  have n1610 : n16 10 = n 10 + 2 * g := by rw [(hA16.2.1 10 (by omega)).1]; exact d2
  have hrow10' : xr_row h16 (rw 10) 2 (n16 10) (it16 10) := hG16.rowOk (k := 10) (by omega)
  refine ⟨md, hG16.rmd, hG16.kmd, rw 9, hG16.row (by omega), md, hG16.rmd, hG16.kmd, rw 10, hG16.row (by omega), hG16.krow (by omega), sp_Row_lines hrow10' (by omega) (fun r41 e41 _ => ⟨hG16.krow (by omega), hG16.addA (by omega) hA16 (by simp; omega) hM2 (fun h17 it17 n17 vs17 bc17 bs17 hG17 hA17 _ => ?_)⟩)⟩
  refine ⟨md, hG17.rmd, hG17.kmd, rw 9, hG17.row (by omega), hG17.krow (by omega), hG17.addA (by omega) hA17 (by simp; omega) hM2 (fun h18 it18 n18 vs18 bc18 bs18 hG18 hA18 _ => ?_)⟩
  refine rdG_readExpression hT hG18 hby (by omega) (fun j hj => hI13.z j (by omega)) (fun h19 ν' q19 f1 f2 f3 f4 f5 hG19 _ => ⟨fun _ => ?_, fun _ => ⟨md, hG19.rmd, hG19.kmd, sp_fail hT hG19.X hG19.c hG19.b⟩⟩)
  unfold w_Reader_readBody_L130
  refine ⟨hG19.krd, fun h20 e20 => ?_⟩
  subst e20
  have ev2 : v2.toInt = l := by rw [e2]; exact hG.ilim
  have hG20 := hG19.lim (v := v2) (by omega) (by omega)
  rw [ev2] at hG20
  have e12' : r12.toInt = f0 := by rw [e12, hf0]; omega
  have e41' : r41.toInt = f0 + g := by rw [e41, n1610, hf0]; omega
  have hb10 := hI13.nk (k := 10) (by omega)
  have e42 : (r41 - r12).toInt = g := by rw [z_sub, e41', e12']; omega
  have hn9' := hI.nk (k := 9) (by omega)
  have d39 := d3 9 (by omega)
  refine hQ _ it18 n18 vs18 ν' q19 bc18 bs18 (by omega) hG20 ((hI13.ex (a' := q19) (ν' := ν') (by omega) f3 f4).x9 (p := q13) (e := q19) (b' := q19) hA18 (by simp) (by omega) (Nat.le_refl q13) f1 (Nat.le_refl q19) (Nat.le_refl q19) ?_ f5 (fun en hm => ?_)) (fun j => ?_)
  · simp only [List.nil_append, List.cons_append, List.getD_cons_zero, List.getD_cons_succ, Z_of32, hG13.iat]
  · unfold mp9
    simp only [List.nil_append, List.cons_append, List.getD_cons_zero, List.getD_cons_succ, Z_of32, hG13.iat, e42, e12', Int.toNat_natCast]
    exact ⟨hm, d5, d6, by omega, by omega, by omega, d4.symm⟩
  · by_cases e : j = 9
    · rw [e, hA18.1, d3 9 (by omega)]
      omega
    · rw [(hA18.2.1 j e).1]
      by_cases e10 : j = 10
      · rw [e10]
        omega
      · rw [d3 j e10]
        omega
end RDP
