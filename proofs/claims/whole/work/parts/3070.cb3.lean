-- the checker: a body as a whole
section CB3
variable {S : Nat → Prop} {h0 h : xb_H} {md rd op ck cd nt im N oa rc rs : Nat} {ca : Nat → Nat} {rw it n : Nat → Nat} {vs vs' : Nat → Nat → Int64} {cb ν ν' ν0 iv lo : Nat → Int32} {R0 F : Nat → Nat → Int32} {bc bs : Nat} {Qt : String → xb_H → Nat → Nat → Prop} {cur : List Int} {fs r : List ckF} {f : ckF} {g p lc ty : Int}
theorem ct_LC.cv {t lcn q : Nat} {G : ctG} {B : ctN} {op : Int} {gs : List gF} (e0 : vs' 0 = vs 0) (e2 : vs' 2 = vs 2) (e5 : vs' 5 = vs 5) (h : ct_LC n vs cb lo t lcn ν0 G B op q cur gs) : ct_LC n vs' cb lo t lcn ν0 G B op q cur gs := by
  unfold ct_LC at h ⊢
  rw [e0, e2, e5]
  exact h
theorem ct_Z.cv {t lcn p0 E : Nat} {rm : Int} (e0 : vs' 0 = vs 0) (e2 : vs' 2 = vs 2) (e5 : vs' 5 = vs 5) (hν : ∀ j, p0 ≤ j → j < E → ν' j = ν j) (h : ct_Z n vs cb lo t lcn p0 E ν0 ν rm) : ct_Z n vs' cb lo t lcn p0 E ν0 ν' rm := by
  obtain ⟨G, h0, h1, h2, h3, h4⟩ := h
  have hB : ∀ j v, ct_B ν p0 E j v → ct_B ν' p0 E j v := ct_B.mono hν (Nat.le_refl _)
  have hG : ∀ k a c s, G k a c s → G k a c s := fun _ _ _ _ h => h
  exact ⟨G, h0, fun a c gs ha => ⟨(h1 a c gs ha).1, ((h1 a c gs ha).2.mono hG hB).cv e0 e2 e5⟩, fun o c gs ha => (h2 o c gs ha).mono hG hB, fun o c gs ha => (h3 o c gs ha).mono hG hB, fun o c gs ha => (h4 o c gs ha).mono hG hB⟩
theorem cs_checkBody {x1 : Int32} {b i t p0 E m : Nat} {Qr : xb_H → Nat → Nat → Prop} (hT : ck_T S h0 md rd op ck ca rc rs Qt) (hH : ck_H S h0 h md rd op ck cd nt im N oa ca rw it n vs cb iv R0) (hF : ck_Fr S h0 h F) (hS : ck_S0 nt cd im rw R0 cb iv ν F) (hc : rc + 1 ≤ bc) (hb : rs + 6 ≤ bs) (hx : x1.toInt = b) (hb9 : 5 * b + 5 ≤ n 9) (hby : ∀ j, -128 ≤ (cb j).toInt ∧ (cb j).toInt ≤ 127)
    (hL : xr_L 5 (mp0 N cb) (n 0) (vs 0)) (hL10 : xr_L 2 mp10 (n 10) (vs 10)) (hn10 : n 10 ≤ 2 * N) (hn2 : n 2 ≤ 2 * N) (ht : t < n 0 / 5)
    (hv : ∀ i : Nat, i < n 5 / 4 → 4 * i + 4 ≤ n 5 ∧ 124 ≤ (vs 5 (4 * i + 1)).toInt ∧ (vs 5 (4 * i + 1)).toInt ≤ 127 ∧ ((vs 5 (4 * i + 2)).toInt = 0 ∨ (vs 5 (4 * i + 2)).toInt = 1))
    (hfn : ∀ i, i < n 2 / 2 → 2 * i + 2 ≤ n 2 ∧ 0 ≤ (vs 2 (2 * i + 1)).toInt ∧ (vs 2 (2 * i + 1)).toInt < (n 0 / 5 : Nat)) (hn0 : n 0 ≤ 2 * N) (hE : E ≤ N)
    (hi : (iv 0).toInt + b = i) (hi2 : i < n 2 / 2) (hit : (vs 2 (2 * i + 1)).toInt = t) (hp : (vs 9 (5 * b)).toInt = p0) (hwk : wk cb ν E m p0 [])
    (h1 : (vs 9 (5 * b + 1)).toInt ≤ 1000) (h2 : 0 ≤ (vs 9 (5 * b + 2)).toInt) (h3 : 0 ≤ (vs 9 (5 * b + 3)).toInt) (h4 : 2 * ((vs 9 (5 * b + 2)).toInt + (vs 9 (5 * b + 3)).toInt) ≤ n 10) (h5 : gsum (vs 10) (vs 9 (5 * b + 2)).toInt.toNat (vs 9 (5 * b + 3)).toInt.toNat = (vs 9 (5 * b + 1)).toInt)
    (hQ : ∀ (F' : Nat → Nat → Int32) (g : Int) (ν' lo : Nat → Int32) (lcn : Nat), (lcn : Int) = (vs 9 (5 * b + 1)).toInt → (∀ j, j < lcn → 124 ≤ (lo j).toInt ∧ (lo j).toInt ≤ 127) → ck_Fr S h0 h F' → ck_S0 nt cd im rw R0 cb iv ν' F' → ct_Z n vs cb lo t lcn p0 E ν ν' g → (∀ j, j < p0 ∨ E ≤ j → ν' j = ν j) → 0 ≤ g → g ≤ N → (F' ck 5).toInt = g → Qr (xb_L (xb_W h F') (it 9) (5 * b + 4) (F' ck 5).toInt64) bc bs) : w_Checker_checkBody ck x1 (xb_W h F) bc bs Qr Qt := by
  obtain ⟨-, -, ⟨r0, r1, r2, r3, ko, lo1, lo2⟩, hD, ⟨S1, S2, S3⟩, kck, kmd, ha, hN, ⟨knt, nnt, kcd, ncd⟩⟩ := id hH
  have hM := hH.S0 hS
  obtain ⟨im1, im2, im3, im4⟩ := hM.2.2.2.1
  have hit2 := (hfn i hi2).1
  have ex : (xb_i (xb_W h F) im 0 + x1).toInt = i := by rw [im4, z_add, hx]; omega
  have hpE := hwk.lt
  unfold w_Checker_checkBody
  refine ⟨kck, md, r0, md, r0, kmd, im, im1, im2, by rw [im3, z_in]; decide, kmd, ?_⟩
  refine md_typeOf hM ex hit2 (by omega) (by omega) (fun r10 e10 _ h11 e11 => ?_)
  rw [xW_I] at e11
  subst e11
  have hS1 := hS.kk (φ := va_up (F ck) 8 r10) hD
  refine cs_spreadLocals hH (hF.up (.inl S1)) hS1 hx hb9 h1 h2 h3 h4 h5 hL10 hn10 (fun F2 lcn l1 l2 l3 hF2 hS2 l4 l5 _ h14 e14 h15 e15 h16 e16 => ?_)
  rw [xW_I] at e14
  subst e14
  rw [xW_I, bx_uu, xh_up, if_pos rfl] at e15
  subst e15
  rw [xW_I, bx_uu, xh_up, if_pos rfl] at e16
  subst e16
  have hS3 := hS2.kk (φ := va_up (va_up (va_up (F2 ck) 4 0) 5 0) 16 0) hD
  have hM3 := hH.S0 hS3
  refine ⟨md, r0, kmd, rw 9, hM3.row (by omega), hM3.krow (by omega), md_at (c := 5) hM3 (i := b) (j := 0) (by omega) rfl hx rfl (by omega) hb9 (fun r22 e22 _ h23 e23 => ?_)⟩
  rw [xW_I, bx_uu, xh_up, if_pos rfl] at e23
  subst e23
  have hS4 := hS2.kk (φ := va_up (va_up (va_up (va_up (F2 ck) 4 0) 5 0) 16 0) 9 r22) hD
  have hM4 := hH.S0 hS4
  have e8 : xb_i (xb_W h (va_up F2 ck (va_up (va_up (va_up (va_up (F2 ck) 4 0) 5 0) 16 0) 9 r22))) ck 8 = r10 := by
    rw [xW_i, xh_up, if_pos rfl, xh_up, if_neg (by omega), xh_up, if_neg (by omega), xh_up, if_neg (by omega), xh_up, if_neg (by omega), l5 8 (by omega), xh_up, if_pos rfl, xh_up, if_pos rfl]
  have et : r10.toInt = t := by rw [e10, hit]
  refine ⟨md, r0, kmd, ?_⟩
  rw [e8]
  refine md_resultType hM4 hL et ht (fun r27 e27 e27' _ => ⟨md, r0, kmd, ?_⟩)
  rw [e8]
  refine md_resultType hM4 hL et ht (fun r31 e31 e31' _ => ?_)
  rw [Nat.add_zero, hp] at e22
  have e22' : r22.toInt = p0 := by omega
  have hF4 := hF2.up (f := va_up (va_up (va_up (va_up (F2 ck) 4 0) 5 0) 16 0) 9 r22) (.inl S1)
  have hne : ca 0 ≠ ck := (hD.2.2.2.1 0 (by omega)).1
  obtain ⟨lo, hlo⟩ : ∃ lo, lo = F2 (ca 0) := ⟨_, rfl⟩
  have hSS : ck_S ck oa nt cd im ca rw R0 cb iv (va_up F2 ck (va_up (va_up (va_up (va_up (F2 ck) 4 0) 5 0) 16 0) 9 r22)) [] [] ν lo 0 p0 lcn t := by
    obtain ⟨z1, z2, z3, z4⟩ := hS4
    refine ⟨⟨?_, ?_, ?_, ?_, ?_, ?_⟩, trivial, trivial, z1, by rw [xh_up, if_neg hne, hlo], z2, z3, z4, by simp⟩
    · rw [xh_up, if_pos rfl, xh_up, if_neg (by omega), xh_up, if_neg (by omega), xh_up, if_neg (by omega), xh_up, if_pos rfl]; rfl
    · rw [xh_up, if_pos rfl, xh_up, if_neg (by omega), xh_up, if_neg (by omega), xh_up, if_pos rfl]; rfl
    · rw [xh_up, if_pos rfl, xh_up, if_neg (by omega), xh_up, if_neg (by omega), xh_up, if_neg (by omega), xh_up, if_neg (by omega)]; exact l4
    · rw [xh_up, if_pos rfl, xh_up, if_neg (by omega), xh_up, if_neg (by omega), xh_up, if_neg (by omega), xh_up, if_neg (by omega), l5 8 (by omega), xh_up, if_pos rfl, xh_up, if_pos rfl]; exact et
    · rw [xh_up, if_pos rfl, xh_up, if_pos rfl]; exact e22'
    · rw [xh_up, if_pos rfl, xh_up, if_neg (by omega), xh_up, if_pos rfl]; rfl
  refine cs_openThing true hH hF4 hSS (by simp) (fun F5 hF5 hS5 _ => ⟨E - p0 + 2, ?_⟩)
  rw [e27, e31] at hS5
  refine cs_bodyLoop (ν := ν) hT hH hc hb hx hb9 hby hL ht l2 (lo := lo) (by rw [hlo]; exact l3) hv hfn hn0 hE (fun F' g ν' g1 g2 g3 g4 g5 g6 g7 => hQ F' g ν' lo lcn l1 (by rw [hlo]; exact l3) g1 g2 g3 g4 g5 g6 g7) (E - p0) 0 p0 F5 [] (0, -1, (vs 0 (5 * t + 4)).toInt, (vs 0 (5 * t + 4)).toInt, [], 0, true) [] [] ν 0 (fun k a c gs => k = 0 ∧ a = p0 ∧ c = [] ∧ gs = []) (Nat.le_refl _) (by decide) (by simp) hF5 hS5 ?_ ⟨rfl, rfl, rfl, rfl⟩ (fun j _ => rfl)
  refine ⟨⟨Nat.le_refl _, trivial, by simp, rfl, rfl, rfl, rfl, rfl, rfl, rfl⟩, ⟨fun y hy => (by cases hy), ⟨[], rfl⟩, fun _ y hy => (by cases hy), by simp, Int.le_refl _, by simp, by simp⟩, fun _ => ⟨rfl, rfl, rfl, rfl⟩, ?_, ⟨fun o c gs h9 => (by cases h9.1), fun o c gs h9 => (by cases h9.1), fun o c gs h9 => (by cases h9.1)⟩, fun j _ => rfl, fun x hx => (by cases hx), m, hwk⟩
  rintro a c gs ⟨-, e1, e2, e3⟩
  subst e1 e2 e3
  exact ⟨⟨Nat.le_refl _, hpE, by simp, fun y hy => (by cases hy), m, [], hwk, trivial, rfl⟩, .inl ⟨rfl, rfl, rfl, rfl, rfl⟩⟩
end CB3
