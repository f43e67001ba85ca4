-- the reader: imports, elements, data, bodies
section RDO
variable {h0 h : xb_H} {rd op md cd nt im N M rc rs : Nat} {rw : Nat → Nat} {cb : Nat → Int32} {it n : Nat → Nat} {vs : Nat → Nat → Int64} {ν iv : Nat → Int32} {a : Nat} {l : Int} {bc bs : Nat} {Qt : String → xb_H → Nat → Nat → Prop}
theorem rdG_readImport {Qr : xb_H → Nat → Nat → Prop} (hT : rd_T h0 rd op md rc rs Qt) (hG : rd_G h0 h rd op md cd nt im N M rc rs rw cb it n vs ν iv a l bc bs) (hI : md_I N cb n vs ν iv a) (hZ : md_Z n iv) (hby : ∀ j, -128 ≤ (cb j).toInt ∧ (cb j).toInt ≤ 127) (hM : 2 * N + 20 ≤ M) (hM2 : M ≤ 1000000)
    (hQ : ∀ (h' : xb_H) (it' n' : Nat → Nat) (vs' : Nat → Nat → Int64) (iv' : Nat → Int32) (q bc' bs' : Nat), a < q → rd_G h0 h' rd op md cd nt im N M rc rs rw cb it' n' vs' ν iv' q l bc' bs' → md_I N cb n' vs' ν iv' q → md_Z n' iv' → Qr h' bc' bs') : w_Reader_readImport rd h bc bs Qr Qt := by
  unfold w_Reader_readImport w_Reader_readImport_L254
  have hal := hG.al
  have hn1 := hI.nk (k := 1) (by omega)
  have hn2 := hI.nk (k := 2) (by omega)
  have hn3 := hI.nk (k := 3) (by omega)
  have hn4 := hI.nk (k := 4) (by omega)
  have hn5 := hI.nk (k := 5) (by omega)
  refine ⟨hG.krd, fun v2 e2 => rdG_readName hT hG (fun r4 h3 q3 b1 b2 b3 hG3 _ v5 e5 => rdG_readName hT hG3 (fun r7 h6 q6 c1 c2 c3 hG6 _ v8 e8 => rdG_byteUpTo hT hG6 (fun r10 h9 d1 d2 d3 hG9 _ => ?_)))⟩
  simp only [Int32.reduceToInt] at d2
  have ev2 : v2.toInt = a := by rw [e2]; exact hG.iat
  have ev5 : v5.toInt = q3 - r4.toInt := by rw [e5, z_sub, hG3.iat]; omega
  have ev8 : v8.toInt = q6 - r7.toInt := by rw [e8, z_sub, hG6.iat]; omega
  have him := hG.2.2.2.2.2.2.1
  obtain ⟨κ, hκ⟩ : ∃ κ : Nat, r10.toInt = κ := ⟨r10.toInt.toNat, by omega⟩
  have hκ4 : κ < 4 := by omega
  have cκ : r10.toNatClampNeg = κ := by rw [z_cl, hκ]; omega
  refine ⟨md, hG9.rmd, hG9.kmd, rw 1, hG9.row (by omega), hG9.krow (by omega), hG9.addA (by omega) (xr_A.rf 1 n vs) (by simp; omega) hM2 (fun h10 it10 n10 vs10 bc10 bs10 hG10 hA10 _ => ?_)⟩
  refine ⟨md, hG10.rmd, hG10.kmd, rw 1, hG10.row (by omega), hG10.krow (by omega), hG10.addA (by omega) hA10 (by simp; omega) hM2 (fun h11 it11 n11 vs11 bc11 bs11 hG11 hA11 _ => ?_)⟩
  have im11 := hG11.2.2.2.2.2.2.1
  refine ⟨md, hG11.rmd, hG11.kmd, rw 1, hG11.row (by omega), md, hG11.rmd, hG11.kmd, im, im11.1, im11.2.1, by rw [z_in, hκ, im11.2.2.1]; omega, hG11.krow (by omega), ?_⟩
  rw [cκ, im11.2.2.2.2]
  refine hG11.addA (by omega) hA11 (by simp; omega) hM2 (fun h12 it12 n12 vs12 bc12 bs12 hG12 hA12 _ => ?_)
  refine ⟨md, hG12.rmd, hG12.kmd, rw 1, hG12.row (by omega), hG12.krow (by omega), hG12.addA (by omega) hA12 (by simp; omega) hM2 (fun h13 it13 n13 vs13 bc13 bs13 hG13 hA13 _ => ?_)⟩
  refine ⟨md, hG13.rmd, hG13.kmd, rw 1, hG13.row (by omega), hG13.krow (by omega), hG13.addA (by omega) hA13 (by simp; omega) hM2 (fun h14 it14 n14 vs14 bc14 bs14 hG14 hA14 _ => ?_)⟩
  refine ⟨md, hG14.rmd, hG14.kmd, rw 1, hG14.row (by omega), hG14.krow (by omega), hG14.addA (by omega) hA14 (by simp; omega) hM2 (fun h15 it15 n15 vs15 bc15 bs15 hG15 hA15 _ => ?_)⟩
  refine ⟨md, hG15.rmd, hG15.kmd, rw 1, hG15.row (by omega), hG15.krow (by omega), hG15.addA (by omega) hA15 (by simp; omega) hM2 (fun h16 it16 n16 vs16 bc16 bs16 hG16 hA16 _ => ?_)⟩
  have im16 := hG16.2.2.2.2.2.2.1
  refine ⟨md, hG16.rmd, hG16.kmd, im, im16.1, im16.2.1, by rw [z_in, hκ, im16.2.2.1]; omega, by rw [z_in, hκ, im16.2.2.1]; omega, fun h64 e64 => ?_⟩
  rw [im16.2.2.2.2] at e64
  subst e64
  have hI1 := hI.cnt κ hκ4
  have hcnt : (mcnt (vs 1) κ (n 1 / 7) : Int) ≤ n 1 / 7 := by
    have key : ∀ m, mcnt (vs 1) κ m ≤ m := by
      intro m
      induction m with
      | zero => exact Nat.le_refl 0
      | succ m ih => unfold mcnt; split <;> omega
    have := key (n 1 / 7)
    omega
  have hiv : (iv κ + 1).toInt = (iv κ).toInt + 1 := by
    rw [z_add]
    simp only [Int32.reduceToInt]
    omega
  have hG17 := hG16.imI (k := κ) (v := iv κ + 1)
  have hI17 : ∀ q, q6 + 1 < q → md_K N cb n16 vs16 ν (va_up iv κ (iv κ + 1)) a q := by
    intro q hq
    refine (hI.at (a' := q) (by omega)).imp (κ := κ) hA16 (by simp) (by omega) (by have := hZ.2.2.2; omega) hκ4 ?_ (by rw [xh_up, if_pos rfl]; exact hiv) (fun j _ hj => by rw [xh_up, if_neg hj]) ?_
    · simp only [List.nil_append, List.cons_append, List.getD_cons_zero, List.getD_cons_succ, Z_of32]
      exact hκ
    · unfold mp1
      simp only [List.nil_append, List.cons_append, List.getD_cons_zero, List.getD_cons_succ, Z_of32, ev2, ev5, ev8, hκ]
      exact ⟨by omega, by omega, by omega, by omega, hI1, by omega, b1, by omega, by omega, c1, by omega⟩
  have hn16 : ∀ j, j ≠ 1 → n16 j = n j := fun j hj => (hA16.2.1 j hj).1
  have m2 := hn16 2 (by omega)
  have m3 := hn16 3 (by omega)
  have m4 := hn16 4 (by omega)
  have m5 := hn16 5 (by omega)
  obtain ⟨z0, z1, z2, z3⟩ := hZ
  refine ⟨fun k0 => ⟨fun k1 => ⟨fun k2 => ?_, fun k2 => ?_⟩, fun k1 => ?_⟩, fun k0 => ?_⟩
  · rw [z_eq, hκ] at k0 k1 k2
    simp only [Int32.reduceToInt] at k0 k1 k2
    obtain rfl : κ = 3 := by omega
    refine rdG_readVariableType hT hG17 hby (by omega) hM2 ev2 (fun h18 it18 n18 vs18 bc18 bs18 t c f1 f2 f3 f4 hG18 hA18 _ => ⟨md, hG18.rmd, hG18.kmd, rw 5, hG18.row (by omega), hG18.krow (by omega), hG18.addA (by omega) hA18 (by simp; omega) hM2 (fun h19 it19 n19 vs19 bc19 bs19 hG19 hA19 _ => ?_)⟩)
    refine hQ h19 it19 n19 vs19 _ (q6 + 1 + 2) bc19 bs19 (by omega) hG19 ((hI17 (q6 + 1 + 2) (by omega)).a5 hA19 (by simp) (by omega) (by rw [xh_up, if_pos rfl, hiv, m5]; omega) (fun en => ?_)).cl ⟨?_, ?_, ?_, ?_⟩
    · unfold mp5
      simp only [List.nil_append, List.cons_append, List.getD_cons_zero, List.getD_cons_succ, Z_of32, ev2, Int64.reduceToInt]
      refine ⟨by omega, by omega, f2, f3, f4, fun _ => trivial, fun e => ?_⟩
      rw [xh_up, if_pos rfl, hiv] at e
      omega
    · rw [xh_up, if_neg (by omega), (hA19.2.1 2 (by omega)).1, m2]; exact z0
    · rw [xh_up, if_neg (by omega), (hA19.2.1 3 (by omega)).1, m3]; exact z1
    · rw [xh_up, if_neg (by omega), (hA19.2.1 4 (by omega)).1, m4]; exact z2
    · rw [xh_up, if_pos rfl, hA19.1, m5, hiv]
      simp
      omega
  · rw [z_eq, hκ] at k2
    simp only [Int32.reduceToInt] at k2
    obtain rfl : κ = 2 := by omega
    refine ⟨md, hG17.rmd, hG17.kmd, rw 4, hG17.row (by omega), rdG_readLimits (p := a) hT hG17 (by omega) (by omega) hM2 ev2 (by omega) (fun h' it' n' vs' q bc' bs' L f1 f2 hG18 hA hL hp _ => ?_)⟩
    refine hQ h' it' n' vs' _ q bc' bs' (by omega) hG18 ((hI17 q (by omega)).a4 hA hL (by omega) (hp _)).cl ⟨?_, ?_, ?_, ?_⟩
    · rw [xh_up, if_neg (by omega), (hA.2.1 2 (by omega)).1, m2]; exact z0
    · rw [xh_up, if_neg (by omega), (hA.2.1 3 (by omega)).1, m3]; exact z1
    · rw [xh_up, if_pos rfl, hA.1, hL, m4, hiv]
      omega
    · rw [xh_up, if_neg (by omega), (hA.2.1 5 (by omega)).1, m5]; exact z3
  · rw [z_eq, hκ] at k1
    simp only [Int32.reduceToInt] at k1
    obtain rfl : κ = 1 := by omega
    refine rdG_readMark hT hG17 (fun h18 f0 hG18 _ => ⟨md, hG18.rmd, hG18.kmd, rw 3, hG18.row (by omega), rdG_readLimits (p := a) hT hG18 (by omega) (by omega) hM2 ev2 (by omega) (fun h' it' n' vs' q bc' bs' L f1 f2 hG19 hA hL hp _ => ?_)⟩)
    refine hQ h' it' n' vs' _ q bc' bs' (by omega) hG19 ((hI17 q (by omega)).a3 hA hL (by omega) (hp _)).cl ⟨?_, ?_, ?_, ?_⟩
    · rw [xh_up, if_neg (by omega), (hA.2.1 2 (by omega)).1, m2]; exact z0
    · rw [xh_up, if_pos rfl, hA.1, hL, m3, hiv]
      omega
    · rw [xh_up, if_neg (by omega), (hA.2.1 4 (by omega)).1, m4]; exact z2
    · rw [xh_up, if_neg (by omega), (hA.2.1 5 (by omega)).1, m5]; exact z3
  · rw [z_eq, hκ] at k0
    simp only [Int32.reduceToInt] at k0
    obtain rfl : κ = 0 := by omega
    refine ⟨md, hG17.rmd, hG17.kmd, rw 2, hG17.row (by omega), hG17.krow (by omega), hG17.addA (by omega) (xr_A.rf 2 n16 vs16) (by simp; omega) hM2 (fun h18 it18 n18 vs18 bc18 bs18 hG18 hA18 _ => ?_)⟩
    refine ⟨md, hG18.rmd, hG18.kmd, rw 2, hG18.row (by omega), rdG_count hT hG18 (fun r98 h19 q19 f1 f2 hG19 _ => ⟨hG19.krow (by omega), hG19.addA (by omega) hA18 (by simp; omega) hM2 (fun h20 it20 n20 vs20 bc20 bs20 hG20 hA _ => ?_)⟩)⟩
    refine hQ h20 it20 n20 vs20 _ q19 bc20 bs20 (by omega) hG20 ((hI17 q19 (by omega)).a2 hA (by simp) (by omega) ?_).cl ⟨?_, ?_, ?_, ?_⟩
    · unfold mp2
      simp only [List.nil_append, List.cons_append, List.getD_cons_zero, List.getD_cons_succ, Z_of32, Z_low, ev2]
      exact ⟨by omega, by omega, by omega, by omega⟩
    · rw [xh_up, if_pos rfl, hA.1, m2, hiv]
      simp
      omega
    · rw [xh_up, if_neg (by omega), (hA.2.1 3 (by omega)).1, m3]; exact z1
    · rw [xh_up, if_neg (by omega), (hA.2.1 4 (by omega)).1, m4]; exact z2
    · rw [xh_up, if_neg (by omega), (hA.2.1 5 (by omega)).1, m5]; exact z3
theorem rdG_readData {Qr : xb_H → Nat → Nat → Prop} (hT : rd_T h0 rd op md rc rs Qt) (hG : rd_G h0 h rd op md cd nt im N M rc rs rw cb it n vs ν iv a l bc bs) (hI : md_I N cb n vs ν iv a) (hby : ∀ j, -128 ≤ (cb j).toInt ∧ (cb j).toInt ≤ 127) (hM : 2 * N + 20 ≤ M) (hM2 : M ≤ 1000000)
    (hQ : ∀ (h' : xb_H) (it' n' : Nat → Nat) (vs' : Nat → Nat → Int64) (ν' : Nat → Int32) (q bc' bs' : Nat), a < q → rd_G h0 h' rd op md cd nt im N M rc rs rw cb it' n' vs' ν' iv q l bc' bs' → md_I N cb n' vs' ν' iv q → (∀ j, n j ≤ n' j) → Qr h' bc' bs') : w_Reader_readData rd h bc bs Qr Qt := by
  unfold w_Reader_readData
  have hal := hG.al
  have hn := hI.nk (k := 11) (by omega)
  have h8 := hI.ge8
  refine ⟨hG.krd, md, hG.rmd, hG.kmd, rw 11, hG.row (by omega), hG.krow (by omega), hG.addA (by omega) (xr_A.rf 11 n vs) (by simp; omega) hM2 (fun h1 it1 n1 vs1 bc1 bs1 hG1 hA1 _ => ?_)⟩
  refine ⟨md, hG1.rmd, hG1.kmd, rw 11, hG1.row (by omega), rdG_count hT hG1 (fun r12 h2 q2 b1 b2 hG2 _ => ⟨hG2.krow (by omega), hG2.addA (by omega) hA1 (by simp; omega) hM2 (fun h3 it3 n3 vs3 bc3 bs3 hG3 hA3 _ => ?_)⟩)⟩
  refine ⟨md, hG3.rmd, hG3.kmd, rw 11, hG3.row (by omega), hG3.krow (by omega), hG3.addA (by omega) hA3 (by simp; omega) hM2 (fun h4 it4 n4 vs4 bc4 bs4 hG4 hA4 _ => ?_)⟩
  refine rdG_readExpression hT hG4 hby (by omega) (fun j hj => hI.z j (by omega)) (fun h5 ν' q5 c1 c2 c3 c4 c5 hG5 _ => rdG_count hT hG5 (fun r25 h6 q6 d1 d2 hG6 _ => ?_))
  have fl : w_Reader_readData_L75 Qr Qt rd r25 h6 bc4 bs4 := ⟨hG6.krd, md, hG6.rmd, hG6.kmd, sp_fail hT hG6.X hG6.c hG6.b⟩
  have r := z_rg r25
  refine ⟨fun _ => fl, fun e1 => ⟨fun e2 => ?_, fun _ => fl⟩⟩
  rw [z_lt] at e1
  rw [z_le, z_sub, hG6.ilim, hG6.iat] at e2
  simp only [Int32.reduceToInt] at e1
  unfold w_Reader_readData_L87
  refine ⟨hG6.krd, md, hG6.rmd, hG6.kmd, rw 11, hG6.row (by omega), hG6.krow (by omega), hG6.addA (by omega) hA4 (by simp; omega) hM2 (fun h7 it7 n7 vs7 bc7 bs7 hG7 hA7 _ => ?_)⟩
  refine ⟨md, hG7.rmd, hG7.kmd, rw 11, hG7.row (by omega), hG7.krow (by omega), hG7.addA (by omega) hA7 (by simp; omega) hM2 (fun h8 it8 n8 vs8 bc8 bs8 hG8 hA8 _ h14 e14 => ?_)⟩
  have e9 : (xb_i h8 rd 3 + r25).toInt = (q6 + r25.toInt.toNat : Nat) := by rw [z_add, hG8.iat]; omega
  subst e14
  refine hQ _ it8 n8 vs8 ν' _ bc8 bs8 (by omega) (hG8.at e9 (by omega)) ((hI.ex (a' := q6 + r25.toInt.toNat) (ν' := ν') (by omega) (fun j hj => c3 j (by omega)) (fun j hj => c4 j (by omega))).x11 (p := q2) (e := q5) (b' := q6 + r25.toInt.toNat) hA8 (by simp) (by omega) (by omega) c1 (by omega) (Nat.le_refl _) ?_ c5 (fun en hm => ?_)) (fun j => ?_)
  · simp only [List.nil_append, List.cons_append, List.getD_cons_zero, List.getD_cons_succ, Z_of32, hG3.iat]
  · unfold mp11
    simp only [List.nil_append, List.cons_append, List.getD_cons_zero, List.getD_cons_succ, Z_of32, Z_low, hG.iat, hG3.iat, hG6.iat]
    exact ⟨by omega, by omega, by omega, by omega, hm, by omega, by omega, by omega⟩
  · by_cases e : j = 11
    · rw [e, hA8.1]
      omega
    · rw [(hA8.2.1 j e).1]
      omega
end RDO
