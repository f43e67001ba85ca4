-- a run: instructions on whole numbers
/-- how many values a numeric instruction takes, their type, its result's -/
def sgN (o : Nat) : Nat := if o ≤ 69 then 1 else if o ≤ 79 then 2 else if o ≤ 80 then 1 else if o ≤ 102 then 2 else if o ≤ 105 then 1 else if o ≤ 120 then 2 else if o ≤ 123 then 1 else if o ≤ 138 then 2 else if o ≤ 145 then 1 else if o ≤ 152 then 2 else if o ≤ 159 then 1 else if o ≤ 166 then 2 else 1
def sgA (o : Nat) : Int := if o ≤ 79 then 127 else if o ≤ 90 then 126 else if o ≤ 96 then 125 else if o ≤ 102 then 124 else if o ≤ 120 then 127 else if o ≤ 138 then 126 else if o ≤ 152 then 125 else if o ≤ 166 then 124 else if o ≤ 167 then 126 else if o ≤ 169 then 125 else if o ≤ 171 then 124 else if o ≤ 173 then 127 else if o ≤ 175 then 125 else if o ≤ 177 then 124 else if o ≤ 179 then 127 else if o ≤ 181 then 126 else if o ≤ 182 then 124 else if o ≤ 184 then 127 else if o ≤ 186 then 126 else if o ≤ 188 then 125 else if o ≤ 189 then 124 else if o ≤ 190 then 127 else 126
def sgR (o : Nat) : Int := if o ≤ 120 then 127 else if o ≤ 138 then 126 else if o ≤ 152 then 125 else if o ≤ 166 then 124 else if o ≤ 171 then 127 else if o ≤ 177 then 126 else if o ≤ 182 then 125 else if o ≤ 187 then 124 else if o ≤ 188 then 127 else if o ≤ 189 then 126 else if o ≤ 190 then 125 else 124
theorem SG_le : ∀ i, i < 30 → SG (4 * i) ≤ 191 := by decide +kernel
theorem SG_tb : ∀ i, i < 30 → ∀ o, o < 192 → (69 ≤ o ∧ (i = 0 ∨ SG (4 * (i - 1)) < (o : Nat)) ∧ ((o : Nat) : Int) ≤ SG (4 * i) → SG (4 * i + 1) = sgN o ∧ SG (4 * i + 2) = sgA o ∧ SG (4 * i + 3) = sgR o) := by decide +kernel
section NU2
variable {own own' ad ad' : Nat → Nat} {h h' h1 : xb_H} {W : wD} {σ D : Nat} {gx : Nat → fG} {t P lcn p0 E g : Nat} {lo ν0 : Nat → Int32} {G : ctG}
theorem ct_LC.nm {n : Nat → Nat} {vs : Nat → Nat → Int64} {cb : Nat → Int32} {B : ctN} {q o : Nat} {cur : List Int} {gs : List gF} (hl : ct_LC n vs cb lo t lcn ν0 G B o q cur gs) (ho : 69 ≤ o) : o < 192 ∧ ∃ c : List Int, cur = List.replicate (sgN o) (sgA o) ++ c ∧ G 0 (q + 1) (sgR o :: c) gs := by
  obtain ⟨i, c, h1, h2, h3, h4, h5⟩ := hl.2.2.2.2.2.2.2.2.2.2.2.2.2.2.2.2.2 (by omega)
  have h6 := SG_le i h1
  obtain ⟨e1, e2, e3⟩ := SG_tb i h1 o (by omega) ⟨ho, (by
    by_cases h9 : i = 0
    · exact .inl h9
    · exact .inr (h2 (i - 1) (by omega))), h3⟩
  rw [e1, e2, Int.toNat_natCast] at h4
  rw [e3] at h5
  exact ⟨by omega, c, h4, h5⟩
/-- the numbers that an instruction takes -/
def nVa (v : Nat → Int64) (p : Nat) : Nat := (v p).toBitVec.toNat
def nVb (o : Nat) (v : Nat → Int64) (p : Nat) : Nat := if sgN o = 2 then (v (p + 1)).toBitVec.toNat else 0
theorem vr_w {τ : Int} {x : Int64} (h : vr τ x) (hτ : τ = 127 ∨ τ = 125) : x.toBitVec.toNat < 4294967296 := vr_N.mp h hτ
/-- a short number, its sign spread -/
theorem sx32 {x : Int64} {a : Nat} (hx : x.toBitVec.toNat = a) (ha : a < 4294967296) : (Int64.toInt32 x).toBitVec.toNat = a ∧ (Int64.toInt32 x).toInt = sgn 32 a ∧ (Int32.toInt64 (Int64.toInt32 x)).toBitVec.toNat = (if a < 2147483648 then a else a + 18446744069414584320) := by
  have h1 := z_of64 x
  have h2 := Z_nat x
  have h3 := z_nat (Int64.toInt32 x)
  have h4 := Z_nat (Int32.toInt64 (Int64.toInt32 x))
  rw [Z_of32] at h4
  have h5 : x.toInt = a := Z_nn hx (by omega)
  have e1 : (Int64.toInt32 x).toBitVec.toNat = a := by omega
  refine ⟨e1, by rw [sg32, e1], ?_⟩
  split <;> omega
theorem icm_sx {k a b : Nat} (ha : a < 4294967296) (hb : b < 4294967296) : icm 64 k (if a < 2147483648 then a else a + 18446744069414584320) (if b < 2147483648 then b else b + 18446744069414584320) ↔ icm 32 k a b := by
  have s : ∀ a : Nat, a < 4294967296 → sgn 64 (if a < 2147483648 then a else a + 18446744069414584320) = sgn 32 a := fun a ha => by
    unfold sgn
    repeat' split
    all_goals omega
  unfold icm
  rw [s a ha, s b hb]
  have e1 : ∀ a : Nat, (a < 2147483648 ∧ (if a < 2147483648 then a else a + 18446744069414584320) = a) ∨ (2147483648 ≤ a ∧ (if a < 2147483648 then a else a + 18446744069414584320) = a + 18446744069414584320) := fun a => by
    by_cases h : a < 2147483648
    · exact .inl ⟨h, if_pos h⟩
    · exact .inr ⟨by omega, if_neg h⟩
  have ea := e1 a
  have eb := e1 b
  clear e1 s
  generalize (if a < 2147483648 then a else a + 18446744069414584320) = A at ea ⊢
  generalize (if b < 2147483648 then b else b + 18446744069414584320) = B at eb ⊢
  constructor
  · rintro (h | h | h | h | h | h | h | h | h | h) <;> omega
  · rintro (h | h | h | h | h | h | h | h | h | h) <;> omega
theorem nmt_z {o a c : Nat} (h : o ≤ 105 ∨ (121 ≤ o ∧ o ≤ 123) ∨ (139 ≤ o ∧ o ≤ 167) ∨ o = 172 ∨ o = 173 ∨ 178 ≤ o) : nmt o a c = 0 := by
  unfold nmt
  rw [if_neg (by omega), if_neg (by omega), if_neg (by omega), if_neg (by omega), if_neg (by omega), if_neg (by omega)]
theorem nmv_a {o a c : Nat} (h : o = 69 ∨ o = 80) : nmv o a c = b01 (a = 0) := if_pos h
theorem nmv_b {o a c : Nat} (h : 70 ≤ o ∧ o ≤ 79) : nmv o a c = b01 (icm 32 (o - 70) a c) := by
  unfold nmv
  rw [if_neg (by omega), if_pos (by omega)]
theorem nmv_c {o a c : Nat} (h : 81 ≤ o ∧ o ≤ 90) : nmv o a c = b01 (icm 64 (o - 81) a c) := by
  unfold nmv
  rw [if_neg (by omega), if_neg (by omega), if_pos (by omega)]
theorem nmv_d {o a c : Nat} (h : 91 ≤ o ∧ o ≤ 96) : nmv o a c = b01 (fcm 24 127 (o - 91) a c) := by
  unfold nmv
  rw [if_neg (by omega), if_neg (by omega), if_neg (by omega), if_pos (by omega)]
theorem nmv_e {o a c : Nat} (h : 97 ≤ o ∧ o ≤ 102) : nmv o a c = b01 (fcm 53 1023 (o - 97) a c) := by
  unfold nmv
  rw [if_neg (by omega), if_neg (by omega), if_neg (by omega), if_neg (by omega), if_pos (by omega)]
theorem nmI_1 {o a c : Nat} {P : Prop} (h : nmv o a c = b01 P) (hP : P) : (1 : Int64) = nmI o a c := nmI_e (by rw [h, b01_1 hP]; rfl) (fun _ => by rw [h, b01_1 hP]; decide)
theorem nmI_0 {o a c : Nat} {P : Prop} (h : nmv o a c = b01 P) (hP : ¬ P) : (0 : Int64) = nmI o a c := nmI_e (by rw [h, b01_0 hP]; rfl) (fun _ => by rw [h, b01_0 hP]; decide)
theorem sgA_c : ∀ o, o < 192 → (69 ≤ o ∧ o ≤ 102 → sgA o = if o ≤ 79 then 127 else if o ≤ 90 then 126 else if o ≤ 96 then 125 else 124) := by decide +kernel
theorem mc_compare {x1 : Int32} {o : Nat} {c : List Int} {Qr : xb_H → Prop} (hB : cB own ad h) (hS : mS ad h) (hf : fI ad h) (hr : rX ad h W D gx t P lcn p0 E lo ν0 g G) (hx : x1.toInt = o) (h69 : 69 ≤ o) (ho : o ≤ 102) (hc : gC (gx (D - 1)) = List.replicate (sgN o) (sgA o) ++ c) (hQ : ∀ h' : xb_H, nX own ad h W D gx t P lcn p0 E lo ν0 g G 0 (nmI o (nVa (xb_l h (ad 37)) (gO (gx (D - 1)) + c.length)) (nVb o (xb_l h (ad 37)) (gO (gx (D - 1)) + c.length))) (127 :: c) h' → Qr h') : w_Machine_compare (ad 15) x1 h Qr := by
  have k15 : xb_k h (ad 15) = 8 := hB.k 15 (by omega)
  have k37 : xb_k h (ad 37) = 103 := hB.k 37 (by omega)
  have r9 : xb_r h (ad 15) 9 = some (ad 37) := hB.r (15, 9, 37) (by decide)
  have v01 : vr 127 0 ∧ vr 127 1 := ⟨fun _ => by decide, fun _ => by decide⟩
  unfold w_Machine_compare
  by_cases h9 : o = 69 ∨ o = 80
  · have hn : gC (gx (D - 1)) = sgA o :: c := by
      rw [hc]
      rcases h9 with h9 | h9 <;> rw [h9] <;> rfl
    obtain ⟨p1, p2, p3, p4⟩ := hr.tp1 hS hn
    have nv : nmv o (nVa (xb_l h (ad 37)) (gO (gx (D - 1)) + c.length)) (nVb o (xb_l h (ad 37)) (gO (gx (D - 1)) + c.length)) = b01 (nVa (xb_l h (ad 37)) (gO (gx (D - 1)) + c.length) = 0) := nmv_a h9
    have zz : ∀ v5 : Int64, v5 = xb_l h (ad 37) (gO (gx (D - 1)) + c.length) → (v5 = 0 ↔ nVa (xb_l h (ad 37)) (gO (gx (D - 1)) + c.length) = 0) := fun v5 e5 => by
      rw [Z_eqN, e5]
      exact Iff.rfl
    have L24 : ∀ v5 : Int64, v5 = xb_l h (ad 37) (gO (gx (D - 1)) + c.length) → w_Machine_compare_L24 Qr (ad 15) v5 h := by
      intro v5 e5
      unfold w_Machine_compare_L24 w_Machine_compare_L45
      have fin : ∀ v : Int64, v = nmI o (nVa (xb_l h (ad 37)) (gO (gx (D - 1)) + c.length)) (nVb o (xb_l h (ad 37)) (gO (gx (D - 1)) + c.length)) → vr 127 v → ∀ h3 : xb_H, h3 = xb_L h (ad 37) (xb_i h (ad 15) 10 - 1).toNatClampNeg v → Qr h3 := by
        intro v hv0 hv h3 e3
        rw [e3, p3]
        rw [← hv0] at hQ
        exact hQ _ (hr.n1 hB hn rfl hv)
      exact ⟨k15, ad 37, r9, fun e => ⟨k37, p1, fin 0 (nmI_0 nv (fun h8 => e ((zz v5 e5).mpr h8))) v01.1⟩, fun e => ⟨k37, p1, fin 1 (nmI_1 nv ((zz v5 e5).mp e)) v01.2⟩⟩
    refine ⟨k15, ad 37, r9, k37, p1, fun v5 e5 => ?_⟩
    rw [p3] at e5
    refine ⟨fun _ => L24 v5 e5, fun e1 => ⟨fun e2 => ?_, fun _ => L24 v5 e5⟩⟩
    rw [z_eq, hx, show (69 : Int32).toInt = 69 from rfl] at e1
    rw [z_eq, hx, show (80 : Int32).toInt = 80 from rfl] at e2
    omega
  · have sg2 : sgN o = 2 := by
      unfold sgN
      repeat' split
      all_goals omega
    have hn : gC (gx (D - 1)) = sgA o :: sgA o :: c := by
      rw [hc, sg2]
      rfl
    obtain ⟨p1, p2, p3, p4⟩ := hr.tp1 hS hn
    obtain ⟨u1, u2, u3, u4⟩ := hr.tp2 hS hn
    have hA := sgA_c o (by omega) (by omega)
    obtain ⟨va, hva⟩ : ∃ va, va = xb_l h (ad 37) (gO (gx (D - 1)) + c.length) := ⟨_, rfl⟩
    obtain ⟨vb, hvb⟩ : ∃ vb, vb = xb_l h (ad 37) (gO (gx (D - 1)) + c.length + 1) := ⟨_, rfl⟩
    have na : nVa (xb_l h (ad 37)) (gO (gx (D - 1)) + c.length) = va.toBitVec.toNat := by rw [hva]; rfl
    have nb : nVb o (xb_l h (ad 37)) (gO (gx (D - 1)) + c.length) = vb.toBitVec.toNat := by rw [hvb]; exact if_pos sg2
    rw [na, nb] at hQ
    have p4' : vr (sgA o) vb := by rw [hvb]; exact p4
    have u4' : vr (sgA o) va := by rw [hva]; exact u4
    have S4 := hS.2.2.2
    refine ⟨k15, ad 37, r9, k37, p1, fun v5 e5 => ⟨fun e1 => ?_, fun e1 => ⟨fun e2 h8 e8 => ?_, fun e2 => ?_⟩⟩⟩
    · rw [z_eq, hx, show (69 : Int32).toInt = 69 from rfl] at e1
      omega
    · rw [p3] at e5
      have e5' : v5 = vb := by rw [e5, hvb]; rfl
      have i8 : xb_i h8 (ad 15) 10 = xb_i h (ad 15) 10 - 1 := by rw [e8, xh_iI, if_pos rfl, xh_up, if_pos rfl]
      simp only [List.length_cons] at p1 p2 p3
      have q2 : (xb_i h8 (ad 15) 10 - 1).toInt = (gO (gx (D - 1)) + c.length : Nat) := by
        rw [i8, z_sub, p2, show (1 : Int32).toInt = 1 from rfl]
        have := z_in.mp p1
        omega
      have q3 : (xb_i h8 (ad 15) 10 - 1).toNatClampNeg = gO (gx (D - 1)) + c.length := by rw [z_cl, q2, Int.toNat_natCast]
      have s8 : stp [15] [] own ad own ad h h8 := by rw [e8]; exact stp.Ic hB
      have n8 : xb_n h8 = xb_n h := by rw [e8, xh_nI]
      have q1 : vp_in (xb_i h8 (ad 15) 10 - 1) (xb_n h8 (ad 37)) := by
        rw [z_in, q2, n8]
        have := z_in.mp p1
        omega
      have r98 : xb_r h8 (ad 15) 9 = some (ad 37) := s8.1.r (15, 9, 37) (by decide)
      have f8 : fI ad h8 := hf.st hB s8 (by decide) (fun x hx => by cases hx) (by decide) (by decide)
      have L157 : ∀ (r : Int32) (Ph : Prop), nmv o va.toBitVec.toNat vb.toBitVec.toNat = b01 Ph → (r = 0 ↔ ¬ Ph) → w_Machine_compare_L157 Qr (ad 15) r h8 := by
        intro r Ph nv hr0
        unfold w_Machine_compare_L157 w_Machine_compare_L177
        have fin : ∀ v : Int64, v = nmI o va.toBitVec.toNat vb.toBitVec.toNat → vr 127 v → ∀ h3 : xb_H, h3 = xb_L h8 (ad 37) (xb_i h8 (ad 15) 10 - 1).toNatClampNeg v → Qr h3 := by
          intro v hv0 hv h3 e3
          rw [e3, q3, e8]
          rw [← hv0] at hQ
          exact hQ _ (hr.n2 hB hn rfl (by rw [p2]; omega) hv)
        exact ⟨s8.1.k 15 (by omega), ad 37, r98, fun e => ⟨s8.1.k 37 (by omega), q1, fin 0 (nmI_0 nv (hr0.mp e)) v01.1⟩, fun e => ⟨s8.1.k 37 (by omega), q1, fin 1 (nmI_1 nv (Classical.byContradiction fun h7 => e (hr0.mpr h7))) v01.2⟩⟩
      refine ⟨ad 37, r98, s8.1.k 37 (by omega), q1, fun v12 e12 => ?_⟩
      have e12' : v12 = va := by rw [e12, q3, e8, xh_lI, hva]
      rw [e12', e5', z_lt, z_lt, z_lt, hx]
      simp only [Int32.reduceToInt]
      have sb : ∀ (k : Int32) (m : Nat), k.toInt = m → m ≤ o → (x1 - k).toInt = (o - m : Nat) := fun k m hk hm => by
        rw [z_sub, hx, hk]
        omega
      refine ⟨fun e3 => ⟨fun e4 => ⟨fun e6 => ⟨ad 40, s8.1.r (15, 2, 40) (by decide), f8.2.1, ex_fholds (w := o - 97) f8.2 (.inr ⟨rfl, rfl, rfl⟩) rfl rfl (fW_53.mpr va.toBitVec.isLt) (fW_53.mpr vb.toBitVec.isLt) (sb 97 97 rfl (by omega)) (by omega) (fun r _ g2 _ => L157 r _ (nmv_e (by omega)) g2)⟩, fun e6 => ⟨ad 39, s8.1.r (15, 1, 39) (by decide), f8.1.1, ex_fholds (w := o - 91) f8.1 (.inl ⟨rfl, rfl, rfl⟩) rfl rfl (fW_24.mpr (vr_w u4' ?_)) (fW_24.mpr (vr_w p4' ?_)) (sb 91 91 rfl (by omega)) (by omega) (fun r _ g2 _ => L157 r _ (nmv_d (by omega)) g2)⟩⟩, fun e4 => ex_wholeHolds (k := o - 81) (sb 81 81 rfl (by omega)) (by omega) rfl rfl (fun r g1 g2 _ => L157 r _ (nmv_c (by omega)) ?_)⟩, fun e3 => ex_wholeHolds (k := o - 70) (sb 70 70 rfl (by omega)) (by omega) (sx32 rfl (vr_w u4' ?_)).2.2 (sx32 rfl (vr_w p4' ?_)).2.2 (fun r g1 g2 _ => L157 r _ (nmv_b (by omega)) ?_)⟩
      · rw [hA, if_neg (by omega), if_neg (by omega), if_pos (by omega)]
        exact .inr rfl
      · rw [hA, if_neg (by omega), if_neg (by omega), if_pos (by omega)]
        exact .inr rfl
      · rw [← g2]
        rcases g1 with h7 | h7 <;> rw [h7] <;> decide
      · rw [hA, if_pos (by omega)]
        exact .inl rfl
      · rw [hA, if_pos (by omega)]
        exact .inl rfl
      · have w1 := vr_w u4' (by rw [hA, if_pos (by omega)]; exact .inl rfl)
        have w2 := vr_w p4' (by rw [hA, if_pos (by omega)]; exact .inl rfl)
        rw [icm_sx w1 w2] at g2
        rw [← g2]
        rcases g1 with h7 | h7 <;> rw [h7] <;> decide
    · rw [z_eq, hx, show (80 : Int32).toInt = 80 from rfl] at e2
      omega
end NU2
