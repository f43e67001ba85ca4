-- a run: reckoning
theorem sg_1 : ∀ o, o < 192 → (103 ≤ o ∧ o ≤ 105 → sgN o = 1) := by decide +kernel
theorem sg_2 : ∀ o, o < 192 → (106 ≤ o ∧ o ≤ 120 → sgN o = 2) := by decide +kernel
theorem sg_3 : ∀ o, o < 192 → (121 ≤ o ∧ o ≤ 123 → sgN o = 1) := by decide +kernel
theorem sg_4 : ∀ o, o < 192 → (124 ≤ o ∧ o ≤ 138 → sgN o = 2) := by decide +kernel
theorem sg_5 : ∀ o, o < 192 → (69 ≤ o ∧ o ≤ 138 → sgR o = if o ≤ 120 then 127 else 126) := by decide +kernel
theorem sg_6 : ∀ o, o < 192 → (139 ≤ o ∧ o ≤ 152 → sgA o = 125 ∧ sgR o = 125) := by decide +kernel
theorem sg_7 : ∀ o, o < 192 → (153 ≤ o ∧ o ≤ 166 → sgA o = 124 ∧ sgR o = 124) := by decide +kernel
theorem sg_8 : ∀ o, o < 192 → (139 ≤ o ∧ o ≤ 145 ∨ 153 ≤ o ∧ o ≤ 159 ∨ 167 ≤ o → sgN o = 1) := by decide +kernel
theorem sg_9 : ∀ o, o < 192 → (146 ≤ o ∧ o ≤ 152 ∨ 160 ≤ o ∧ o ≤ 166 → sgN o = 2) := by decide +kernel
theorem nmv_f {o a c : Nat} (h : 103 ≤ o ∧ o ≤ 105) : nmv o a c = icn 32 (o - 103) a := by
  unfold nmv
  rw [if_neg (by omega), if_neg (by omega), if_neg (by omega), if_neg (by omega), if_neg (by omega), if_pos (by omega)]
theorem nmv_g {o a c : Nat} (h : 106 ≤ o ∧ o ≤ 120) : nmv o a c = iop 32 (o - 106) a c := by
  unfold nmv
  rw [if_neg (by omega), if_neg (by omega), if_neg (by omega), if_neg (by omega), if_neg (by omega), if_neg (by omega), if_pos (by omega)]
theorem nmv_h {o a c : Nat} (h : 121 ≤ o ∧ o ≤ 123) : nmv o a c = icn 64 (o - 121) a := by
  unfold nmv
  rw [if_neg (by omega), if_neg (by omega), if_neg (by omega), if_neg (by omega), if_neg (by omega), if_neg (by omega), if_neg (by omega), if_pos (by omega)]
theorem nmv_i {o a c : Nat} (h : 124 ≤ o ∧ o ≤ 138) : nmv o a c = iop 64 (o - 124) a c := by
  unfold nmv
  rw [if_neg (by omega), if_neg (by omega), if_neg (by omega), if_neg (by omega), if_neg (by omega), if_neg (by omega), if_neg (by omega), if_neg (by omega), if_pos (by omega)]
theorem nmv_j {o a c : Nat} (h : 139 ≤ o ∧ o ≤ 145) : nmv o a c = fr1 24 127 (o - 139) a := by
  unfold nmv
  rw [if_neg (by omega), if_neg (by omega), if_neg (by omega), if_neg (by omega), if_neg (by omega), if_neg (by omega), if_neg (by omega), if_neg (by omega), if_neg (by omega), if_pos (by omega)]
theorem nmv_k {o a c : Nat} (h : 146 ≤ o ∧ o ≤ 152) : nmv o a c = fr2 24 127 (o - 146) a c := by
  unfold nmv
  rw [if_neg (by omega), if_neg (by omega), if_neg (by omega), if_neg (by omega), if_neg (by omega), if_neg (by omega), if_neg (by omega), if_neg (by omega), if_neg (by omega), if_neg (by omega), if_pos (by omega)]
theorem nmv_l {o a c : Nat} (h : 153 ≤ o ∧ o ≤ 159) : nmv o a c = fr1 53 1023 (o - 153) a := by
  unfold nmv
  rw [if_neg (by omega), if_neg (by omega), if_neg (by omega), if_neg (by omega), if_neg (by omega), if_neg (by omega), if_neg (by omega), if_neg (by omega), if_neg (by omega), if_neg (by omega), if_neg (by omega), if_pos (by omega)]
theorem nmv_m {o a c : Nat} (h : 160 ≤ o ∧ o ≤ 166) : nmv o a c = fr2 53 1023 (o - 160) a c := by
  unfold nmv
  rw [if_neg (by omega), if_neg (by omega), if_neg (by omega), if_neg (by omega), if_neg (by omega), if_neg (by omega), if_neg (by omega), if_neg (by omega), if_neg (by omega), if_neg (by omega), if_neg (by omega), if_neg (by omega), if_pos (by omega)]
theorem nmt_s {o a c : Nat} (h : 106 ≤ o ∧ o ≤ 120) : nmt o a c = itr 32 (o - 106) a c := if_pos h
theorem nmt_l {o a c : Nat} (h : 124 ≤ o ∧ o ≤ 138) : nmt o a c = itr 64 (o - 124) a c := by
  unfold nmt
  rw [if_neg (by omega), if_pos h]
theorem nmr_f : ∀ o, o < 192 → (139 ≤ o ∧ o ≤ 152 → nmr o = 32) ∧ (153 ≤ o ∧ o ≤ 166 → nmr o = 64) ∧ (121 ≤ o ∧ o ≤ 138 → nmr o = 64) := by decide +kernel
theorem vr_fW {τ : Int} {p b : Nat} {x : Int64} (h : vr τ x) (hb : fpb τ p b) : fW p b x.toBitVec.toNat := by
  rcases hb with ⟨rfl, rfl, rfl⟩ | ⟨rfl, rfl, rfl⟩
  · exact fW_24.mpr (vr_w h (.inr rfl))
  · exact fW_53.mpr x.toBitVec.isLt
theorem fW_vr {τ : Int} {p b : Nat} {x : Int64} (hb : fpb τ p b) (h : fW p b x.toBitVec.toNat) : vr τ x := by
  rcases hb with ⟨rfl, rfl, rfl⟩ | ⟨rfl, rfl, rfl⟩
  · exact vr_N.mpr (fun _ => fW_24.mp h)
  · exact vr_no (by omega) (by omega)
section NU3
variable {own own' ad ad' : Nat → Nat} {h h' h1 : xb_H} {W : wD} {σ D : Nat} {gx : Nat → fG} {t P lcn p0 E g : Nat} {lo ν0 : Nat → Int32} {G : ctG}
/-- one value less -/
theorem rX.dn {τ τ' : Int} {c : List Int} (hB : cB own ad h) (hr : rX ad h W D gx t P lcn p0 E lo ν0 g G) (hS : mS ad h) (hn : gC (gx (D - 1)) = τ :: τ' :: c) : ∀ h8 : xb_H, h8 = xb_I h (ad 15) 10 (xb_i h (ad 15) 10 - 1) → stp [15] [] own ad own ad h h8 ∧ vp_in (xb_i h8 (ad 15) 10 - 1) (xb_n h8 (ad 37)) ∧ vp_in (xb_i h8 (ad 15) 10) (xb_n h8 (ad 37)) ∧ (xb_i h8 (ad 15) 10).toNatClampNeg = gO (gx (D - 1)) + c.length + 1 ∧ (xb_i h8 (ad 15) 10 - 1).toNatClampNeg = gO (gx (D - 1)) + c.length ∧ (∀ {ρ : Int} {v : Int64}, vr ρ v → nX own ad h W D gx t P lcn p0 E lo ν0 g G 0 v (ρ :: c) (xb_L h8 (ad 37) (xb_i h8 (ad 15) 10 - 1).toNatClampNeg v)) := by
  intro h8 e8
  obtain ⟨p1, p2, p3, p4⟩ := hr.tp1 hS hn
  have S4 := hS.2.2.2
  have i8 : xb_i h8 (ad 15) 10 = xb_i h (ad 15) 10 - 1 := by rw [e8, xh_iI, if_pos rfl, xh_up, if_pos rfl]
  simp only [List.length_cons] at p1 p2 p3
  have q2 : (xb_i h8 (ad 15) 10 - 1).toInt = (gO (gx (D - 1)) + c.length : Nat) := by
    rw [i8, z_sub, p2, show (1 : Int32).toInt = 1 from rfl]
    have := z_in.mp p1
    omega
  have s8 : stp [15] [] own ad own ad h h8 := by rw [e8]; exact stp.Ic hB
  have n8 : xb_n h8 = xb_n h := by rw [e8, xh_nI]
  refine ⟨s8, ?_, by rw [i8, n8]; exact p1, by rw [i8]; exact p3, by rw [z_cl, q2, Int.toNat_natCast], fun hv => ?_⟩
  · rw [z_in, q2, n8]
    have := z_in.mp p1
    omega
  · have e9 : (xb_i h8 (ad 15) 10 - 1).toNatClampNeg = gO (gx (D - 1)) + c.length := by rw [z_cl, q2, Int.toNat_natCast]
    rw [e9, e8]
    exact hr.n2 hB hn rfl (by rw [p2]; omega) hv
theorem mc_reckonShort {x1 : Int32} {o : Nat} {c : List Int} {Qr : xb_H → Prop} (hB : cB own ad h) (hW : wI own ad h W σ) (hS : mS ad h) (hr : rX ad h W D gx t P lcn p0 E lo ν0 g G) (hx : x1.toInt = o) (h69 : 103 ≤ o) (ho : o ≤ 120) (hc : gC (gx (D - 1)) = List.replicate (sgN o) (sgA o) ++ c) (hQ : ∀ h' : xb_H, nX own ad h W D gx t P lcn p0 E lo ν0 g G (nmt o (nVa (xb_l h (ad 37)) (gO (gx (D - 1)) + c.length)) (nVb o (xb_l h (ad 37)) (gO (gx (D - 1)) + c.length))) (nmI o (nVa (xb_l h (ad 37)) (gO (gx (D - 1)) + c.length)) (nVb o (xb_l h (ad 37)) (gO (gx (D - 1)) + c.length))) (127 :: c) h' → Qr h') : w_Machine_reckonShort (ad 15) x1 h Qr := by
  have k15 : xb_k h (ad 15) = 8 := hB.k 15 (by omega)
  have k37 : xb_k h (ad 37) = 103 := hB.k 37 (by omega)
  have r9 : xb_r h (ad 15) 9 = some (ad 37) := hB.r (15, 9, 37) (by decide)
  have hA : sgA o = 127 := by
    have : ∀ o, o < 192 → (103 ≤ o ∧ o ≤ 120 → sgA o = 127) := by decide +kernel
    exact this o (by omega) (by omega)
  unfold w_Machine_reckonShort
  by_cases h9 : o ≤ 105
  · have hn : gC (gx (D - 1)) = sgA o :: c := by
      have : sgN o = 1 := sg_1 o (by omega) (by omega)
      rw [hc, this]
      rfl
    obtain ⟨p1, p2, p3, p4⟩ := hr.tp1 hS hn
    rw [nmt_z (.inl h9)] at hQ
    have w1 := vr_w p4 (.inl hA)
    refine ⟨k15, ad 37, r9, k37, p1, fun v5 e5 => ⟨fun e => ?_, fun _ => ⟨ad 37, r9, ex_countShort (k := o - 103) (a := nVa (xb_l h (ad 37)) (gO (gx (D - 1)) + c.length)) ?_ (by omega) ?_ (fun r15 hr15 _ => ⟨k37, p1, fun h18 e18 => ?_⟩)⟩⟩⟩
    · rw [z_lt, hx, show (105 : Int32).toInt = 105 from rfl] at e
      omega
    · rw [z_sub, hx, show (103 : Int32).toInt = 103 from rfl]
      omega
    · rw [e5, p3]
      exact (sx32 rfl w1).1
    · have g1 := z_rg r15
      have e9 : (Int32.toInt64 r15) = nmI o (nVa (xb_l h (ad 37)) (gO (gx (D - 1)) + c.length)) (nVb o (xb_l h (ad 37)) (gO (gx (D - 1)) + c.length)) := by
        refine nmI_e ?_ (fun _ => ?_)
        · rw [nmv_f ⟨h69, h9⟩]
          exact Z_of32N hr15
        · rw [nmv_f ⟨h69, h9⟩]
          omega
      rw [e18]
      rw [← e9] at hQ
      refine hQ _ (hr.n1 hB hn p3 (fun _ => ?_))
      rw [Z_of32]
      omega
  · have sg2 : sgN o = 2 := sg_2 o (by omega) (by omega)
    have hn : gC (gx (D - 1)) = sgA o :: sgA o :: c := by
      rw [hc, sg2]
      rfl
    obtain ⟨p1, p2, p3, p4⟩ := hr.tp1 hS hn
    obtain ⟨u1, u2, u3, u4⟩ := hr.tp2 hS hn
    obtain ⟨a, ha⟩ : ∃ a, a = nVa (xb_l h (ad 37)) (gO (gx (D - 1)) + c.length) := ⟨_, rfl⟩
    obtain ⟨b, hb⟩ : ∃ b, b = nVb o (xb_l h (ad 37)) (gO (gx (D - 1)) + c.length) := ⟨_, rfl⟩
    have hb' : (xb_l h (ad 37) (gO (gx (D - 1)) + (sgA o :: c).length)).toBitVec.toNat = b := by
      rw [hb]
      exact (if_pos sg2).symm
    have ha' : (xb_l h (ad 37) (gO (gx (D - 1)) + c.length)).toBitVec.toNat = a := by
      rw [ha]
      rfl
    rw [← ha, ← hb] at hQ
    have wa : a < 4294967296 := by rw [← ha']; exact vr_w u4 (.inl hA)
    have wb : b < 4294967296 := by rw [← hb']; exact vr_w p4 (.inl hA)
    rw [nmt_s (by omega)] at hQ
    have L87 : ∀ A B d y0 y1 : Int32, A.toBitVec.toNat = b → B.toBitVec.toNat = a → d.toInt = (o - 106 : Nat) → (y0 = 0 ↔ ¬ (a = 2 ^ (32 - 1) ∧ b = 2 ^ 32 - 1)) → (y1 = 0 ↔ b ≠ 0) → w_Machine_reckonShort_L87 Qr (ad 15) A B d y0 y1 d h := by
      intro A B d y0 y1 hA9 hB9 hd h0 h1
      unfold w_Machine_reckonShort_L87
      refine ex_trapOf (w := 32) (k := o - 106) (a := a) (b := b) hd h1 h0 (fun r2 hr2 _ => ⟨fun e2 => ⟨k15, fun h5 e5 => ?_⟩, fun e2 => ⟨k15, hr.nf hB hW hS hr2 (fun h8 => e2 (by rw [z_eq, hr2, h8]; rfl)) (fun h' hn' _ => hQ h' hn')⟩⟩)
      obtain ⟨s8, w1, w2, w3, w4, w5⟩ := hr.dn hB hS hn h5 e5
      have i0 : itr 32 (o - 106) a b = 0 := by
        rw [e2, show (0 : Int32).toInt = 0 from rfl] at hr2
        omega
      rw [i0] at hQ
      refine ⟨ad 37, s8.1.r (15, 9, 37) (by decide), ex_reckonShort (k := o - 106) (a := a) (b := b) hd (by omega) hB9 hA9 (fun r8 hr8 _ => ⟨s8.1.k 37 (by omega), w1, fun h11 e11 => ?_⟩)⟩
      have nz : ¬ (3 ≤ o - 106 ∧ o - 106 ≤ 6 ∧ b = 0) := fun h8 => by
        unfold itr at i0
        rw [if_pos h8] at i0
        omega
      have e9 : (Int32.toInt64 r8) &&& 4294967295 = nmI o a b := by
        refine nmI_e ?_ (fun _ => ?_)
        · rw [nmv_g (by omega), Z_and_mod _ 32 rfl, ← hr8 nz]
          have g1 := Z_nat (Int32.toInt64 r8)
          have g2 := z_nat r8
          rw [Z_of32] at g1
          omega
        · rw [nmv_g (by omega), ← hr8 nz]
          exact r8.toBitVec.isLt
      rw [e11, e9]
      exact hQ _ (w5 (by rw [← e9]; exact vr_low))
    have L70 : ∀ A B d y0 : Int32, A.toBitVec.toNat = b → B.toBitVec.toNat = a → d.toInt = (o - 106 : Nat) → (y0 = 0 ↔ b ≠ 0) → w_Machine_reckonShort_L70 Qr (ad 15) A B d y0 d h := by
      intro A B d y0 hA9 hB9 hd h1
      have hBm : B = -2147483648 ↔ a = 2 ^ (32 - 1) := by
        have := z_nat B
        have := z_rg B
        rw [z_eq, show (-2147483648 : Int32).toInt = -2147483648 from rfl]
        omega
      have hAm : A = -1 ↔ b = 2 ^ 32 - 1 := by
        have := z_nat A
        have := z_rg A
        rw [z_eq, show (-1 : Int32).toInt = -1 from rfl]
        omega
      unfold w_Machine_reckonShort_L70 w_Machine_reckonShort_L86
      rw [hBm, hAm]
      exact ⟨fun e => L87 _ _ _ _ _ hA9 hB9 hd ⟨fun _ h8 => e h8.1, fun _ => rfl⟩ h1, fun e => ⟨fun e3 => L87 _ _ _ _ _ hA9 hB9 hd ⟨fun _ h8 => e3 h8.2, fun _ => rfl⟩ h1, fun e3 => L87 _ _ _ _ _ hA9 hB9 hd ⟨fun h8 => absurd h8 (by decide), fun h8 => absurd ⟨e, e3⟩ h8⟩ h1⟩⟩
    refine ⟨k15, ad 37, r9, k37, p1, fun v5 e5 => ⟨fun e => ⟨ad 37, r9, k37, u1, fun v10 e10 v11 e11 => ?_⟩, fun e => ?_⟩⟩
    · rw [p3] at e5
      rw [u3] at e10
      have hA9 : v5.toBitVec.toNat = b := by rw [e5]; exact (sx32 hb' wb).1
      have hB9 : v10.toBitVec.toNat = a := by rw [e10]; exact (sx32 ha' wa).1
      have hd : v11.toInt = (o - 106 : Nat) := by
        rw [e11, z_sub, hx, show (106 : Int32).toInt = 106 from rfl]
        omega
      have h0 : v5 = 0 ↔ b = 0 := by
        have := z_nat v5
        have := z_rg v5
        rw [z_eq, show (0 : Int32).toInt = 0 from rfl]
        omega
      rw [h0]
      exact ⟨fun e9 => L70 _ _ _ _ hA9 hB9 hd ⟨fun _ => e9, fun _ => rfl⟩, fun e9 => L70 _ _ _ _ hA9 hB9 hd ⟨fun h8 => absurd h8 (by decide), fun h8 => absurd e9 h8⟩⟩
    · rw [z_lt, hx, show (105 : Int32).toInt = 105 from rfl] at e
      omega
theorem mc_reckonLong {x1 : Int32} {o : Nat} {c : List Int} {Qr : xb_H → Prop} (hB : cB own ad h) (hW : wI own ad h W σ) (hS : mS ad h) (hr : rX ad h W D gx t P lcn p0 E lo ν0 g G) (hx : x1.toInt = o) (h69 : 121 ≤ o) (ho : o ≤ 138) (hc : gC (gx (D - 1)) = List.replicate (sgN o) (sgA o) ++ c) (hQ : ∀ h' : xb_H, nX own ad h W D gx t P lcn p0 E lo ν0 g G (nmt o (nVa (xb_l h (ad 37)) (gO (gx (D - 1)) + c.length)) (nVb o (xb_l h (ad 37)) (gO (gx (D - 1)) + c.length))) (nmI o (nVa (xb_l h (ad 37)) (gO (gx (D - 1)) + c.length)) (nVb o (xb_l h (ad 37)) (gO (gx (D - 1)) + c.length))) (126 :: c) h' → Qr h') : w_Machine_reckonLong (ad 15) x1 h Qr := by
  have k15 : xb_k h (ad 15) = 8 := hB.k 15 (by omega)
  have k37 : xb_k h (ad 37) = 103 := hB.k 37 (by omega)
  have r9 : xb_r h (ad 15) 9 = some (ad 37) := hB.r (15, 9, 37) (by decide)
  have v6 : ∀ {x : Int64}, vr 126 x := fun {x} => vr_no (by omega) (by omega)
  have n64 : nmr o ≠ 32 := by
    rw [(nmr_f o (by omega)).2.2 (by omega)]
    decide
  unfold w_Machine_reckonLong
  by_cases h9 : o ≤ 123
  · have hn : gC (gx (D - 1)) = sgA o :: c := by
      have : sgN o = 1 := sg_3 o (by omega) (by omega)
      rw [hc, this]
      rfl
    obtain ⟨p1, p2, p3, p4⟩ := hr.tp1 hS hn
    rw [nmt_z (.inr (.inl ⟨h69, h9⟩))] at hQ
    refine ⟨k15, ad 37, r9, k37, p1, fun v5 e5 => ⟨fun e => ?_, fun _ => ⟨ad 37, r9, ex_countLong (k := o - 121) (a := nVa (xb_l h (ad 37)) (gO (gx (D - 1)) + c.length)) ?_ (by omega) (by rw [e5, p3]; rfl) (fun r15 hr15 _ => ⟨k37, p1, fun h18 e18 => ?_⟩)⟩⟩⟩
    · rw [z_lt, hx, show (123 : Int32).toInt = 123 from rfl] at e
      omega
    · rw [z_sub, hx, show (121 : Int32).toInt = 121 from rfl]
      omega
    · have e9 : (Int32.toInt64 r15) = nmI o (nVa (xb_l h (ad 37)) (gO (gx (D - 1)) + c.length)) (nVb o (xb_l h (ad 37)) (gO (gx (D - 1)) + c.length)) := nmI_e (by rw [nmv_h ⟨h69, h9⟩]; exact Z_of32N hr15) (fun h8 => absurd h8 n64)
      rw [e18]
      rw [← e9] at hQ
      exact hQ _ (hr.n1 hB hn p3 v6)
  · have sg2 : sgN o = 2 := sg_4 o (by omega) (by omega)
    have hn : gC (gx (D - 1)) = sgA o :: sgA o :: c := by
      rw [hc, sg2]
      rfl
    obtain ⟨p1, p2, p3, p4⟩ := hr.tp1 hS hn
    obtain ⟨u1, u2, u3, u4⟩ := hr.tp2 hS hn
    obtain ⟨a, ha⟩ : ∃ a, a = nVa (xb_l h (ad 37)) (gO (gx (D - 1)) + c.length) := ⟨_, rfl⟩
    obtain ⟨b, hb⟩ : ∃ b, b = nVb o (xb_l h (ad 37)) (gO (gx (D - 1)) + c.length) := ⟨_, rfl⟩
    have hb' : (xb_l h (ad 37) (gO (gx (D - 1)) + (sgA o :: c).length)).toBitVec.toNat = b := by
      rw [hb]
      exact (if_pos sg2).symm
    have ha' : (xb_l h (ad 37) (gO (gx (D - 1)) + c.length)).toBitVec.toNat = a := by
      rw [ha]
      rfl
    rw [← ha, ← hb, nmt_l (by omega)] at hQ
    have L93 : ∀ (A B : Int64) (d y0 y1 : Int32), A.toBitVec.toNat = b → B.toBitVec.toNat = a → d.toInt = (o - 124 : Nat) → (y0 = 0 ↔ ¬ (a = 2 ^ (64 - 1) ∧ b = 2 ^ 64 - 1)) → (y1 = 0 ↔ b ≠ 0) → w_Machine_reckonLong_L93 Qr (ad 15) A B d y0 y1 d h := by
      intro A B d y0 y1 hA9 hB9 hd h0 h1
      unfold w_Machine_reckonLong_L93
      refine ex_trapOf (w := 64) (k := o - 124) (a := a) (b := b) hd h1 h0 (fun r2 hr2 _ => ⟨fun e2 => ⟨k15, fun h5 e5 => ?_⟩, fun e2 => ⟨k15, hr.nf hB hW hS hr2 (fun h8 => e2 (by rw [z_eq, hr2, h8]; rfl)) (fun h' hn' _ => hQ h' hn')⟩⟩)
      obtain ⟨s8, w1, w2, w3, w4, w5⟩ := hr.dn hB hS hn h5 e5
      have i0 : itr 64 (o - 124) a b = 0 := by
        rw [e2, show (0 : Int32).toInt = 0 from rfl] at hr2
        omega
      rw [i0] at hQ
      refine ⟨ad 37, s8.1.r (15, 9, 37) (by decide), ex_reckonLong (k := o - 124) (a := a) (b := b) hd (by omega) hB9 hA9 (fun r8 hr8 _ => ⟨s8.1.k 37 (by omega), w1, fun h11 e11 => ?_⟩)⟩
      have nz : ¬ (3 ≤ o - 124 ∧ o - 124 ≤ 6 ∧ b = 0) := fun h8 => by
        unfold itr at i0
        rw [if_pos h8] at i0
        omega
      have e9 : r8 = nmI o a b := nmI_e (by rw [nmv_i (by omega)]; exact hr8 nz) (fun h8 => absurd h8 n64)
      rw [e11, e9]
      exact hQ _ (w5 v6)
    have L71 : ∀ (A B : Int64) (d y0 : Int32), A.toBitVec.toNat = b → B.toBitVec.toNat = a → d.toInt = (o - 124 : Nat) → (y0 = 0 ↔ b ≠ 0) → w_Machine_reckonLong_L71 Qr (ad 15) A B d y0 d h := by
      intro A B d y0 hA9 hB9 hd h1
      have hBm : B = -9223372036854775808 ↔ a = 2 ^ (64 - 1) := by
        rw [Z_eqN, hB9]
        exact Iff.rfl
      have hAm : A = -1 ↔ b = 2 ^ 64 - 1 := by
        rw [Z_eqN, hA9]
        exact Iff.rfl
      unfold w_Machine_reckonLong_L71 w_Machine_reckonLong_L92
      rw [hBm, hAm]
      exact ⟨fun e => L93 _ _ _ _ _ hA9 hB9 hd ⟨fun _ h8 => e h8.1, fun _ => rfl⟩ h1, fun e => ⟨fun e3 => L93 _ _ _ _ _ hA9 hB9 hd ⟨fun _ h8 => e3 h8.2, fun _ => rfl⟩ h1, fun e3 => L93 _ _ _ _ _ hA9 hB9 hd ⟨fun h8 => absurd h8 (by decide), fun h8 => absurd ⟨e, e3⟩ h8⟩ h1⟩⟩
    refine ⟨k15, ad 37, r9, k37, p1, fun v5 e5 => ⟨fun e => ⟨ad 37, r9, k37, u1, fun v10 e10 v11 e11 => ?_⟩, fun e => ?_⟩⟩
    · rw [p3] at e5
      rw [u3] at e10
      have hA9 : v5.toBitVec.toNat = b := by rw [e5]; exact hb'
      have hB9 : v10.toBitVec.toNat = a := by rw [e10]; exact ha'
      have hd : v11.toInt = (o - 124 : Nat) := by
        rw [e11, z_sub, hx, show (124 : Int32).toInt = 124 from rfl]
        omega
      have h0 : v5 = 0 ↔ b = 0 := by
        rw [Z_eqN, hA9]
        exact Iff.rfl
      rw [h0]
      exact ⟨fun e9 => L71 _ _ _ _ hA9 hB9 hd ⟨fun _ => e9, fun _ => rfl⟩, fun e9 => L71 _ _ _ _ hA9 hB9 hd ⟨fun h8 => absurd h8 (by decide), fun h8 => absurd e9 h8⟩⟩
    · rw [z_lt, hx, show (123 : Int32).toInt = 123 from rfl] at e
      omega
theorem mc_reckonWhole {x1 : Int32} {o : Nat} {c : List Int} {Qr : xb_H → Prop} (hB : cB own ad h) (hW : wI own ad h W σ) (hS : mS ad h) (hf : fI ad h) (hr : rX ad h W D gx t P lcn p0 E lo ν0 g G) (hx : x1.toInt = o) (h69 : 69 ≤ o) (ho : o ≤ 138) (hc : gC (gx (D - 1)) = List.replicate (sgN o) (sgA o) ++ c) (hQ : ∀ h' : xb_H, nX own ad h W D gx t P lcn p0 E lo ν0 g G (nmt o (nVa (xb_l h (ad 37)) (gO (gx (D - 1)) + c.length)) (nVb o (xb_l h (ad 37)) (gO (gx (D - 1)) + c.length))) (nmI o (nVa (xb_l h (ad 37)) (gO (gx (D - 1)) + c.length)) (nVb o (xb_l h (ad 37)) (gO (gx (D - 1)) + c.length))) (sgR o :: c) h' → Qr h') : w_Machine_reckonWhole (ad 15) x1 h Qr := by
  have k15 : xb_k h (ad 15) = 8 := hB.k 15 (by omega)
  have hR := sg_5 o (by omega) (by omega)
  rw [hR] at hQ
  unfold w_Machine_reckonWhole w_Machine_reckonWhole_L33
  rw [z_lt, z_lt, hx, show (102 : Int32).toInt = 102 from rfl, show (120 : Int32).toInt = 120 from rfl]
  refine ⟨fun e1 => ⟨fun e2 => ⟨k15, mc_reckonLong hB hW hS hr hx (by omega) ho hc (fun h' h9 _ => hQ h' ?_)⟩, fun e2 => ⟨k15, mc_reckonShort hB hW hS hr hx (by omega) (by omega) hc (fun h' h9 _ => hQ h' ?_)⟩⟩, fun e1 => ⟨k15, mc_compare hB hS hf hr hx h69 (by omega) hc (fun h' h9 _ => hQ h' ?_)⟩⟩
  · rw [if_neg (by omega)]
    exact h9
  · rw [if_pos (by omega)]
    exact h9
  · rw [if_pos (by omega), nmt_z (.inl (by omega))]
    exact h9
theorem mc_reckonFloating {x1 : Int32} {o : Nat} {c : List Int} {Qr : xb_H → Prop} (hB : cB own ad h) (hS : mS ad h) (hf : fI ad h) (hr : rX ad h W D gx t P lcn p0 E lo ν0 g G) (hx : x1.toInt = o) (h69 : 139 ≤ o) (ho : o ≤ 166) (hc : gC (gx (D - 1)) = List.replicate (sgN o) (sgA o) ++ c) (hQ : ∀ h' : xb_H, nX own ad h W D gx t P lcn p0 E lo ν0 g G 0 (nmI o (nVa (xb_l h (ad 37)) (gO (gx (D - 1)) + c.length)) (nVb o (xb_l h (ad 37)) (gO (gx (D - 1)) + c.length))) (sgR o :: c) h' → Qr h') : w_Machine_reckonFloating (ad 15) x1 h Qr := by
  have k15 : xb_k h (ad 15) = 8 := hB.k 15 (by omega)
  have k37 : xb_k h (ad 37) = 103 := hB.k 37 (by omega)
  have r9 : xb_r h (ad 15) 9 = some (ad 37) := hB.r (15, 9, 37) (by decide)
  have L43 : ∀ (F : Nat) (y : Int32) (b pf bf : Nat), F = ad 39 ∨ F = ad 40 → fm h F (sgA o) → fpb (sgA o) pf bf → sgR o = sgA o → (nmr o = 32 → pf = 24 ∧ bf = 127) → y.toInt = b → b ≤ o → o ≤ b + 13 → (7 + b ≤ o → sgN o = 2 ∧ ∀ a e, nmv o a e = fr2 pf bf (o - b - 7) a e) → (o < 7 + b → sgN o = 1 ∧ ∀ a e, nmv o a e = fr1 pf bf (o - b) a) → w_Machine_reckonFloating_L43 Qr (ad 15) F y x1 h := by
    intro F y b pf bf hF hm hpb hR hw hy hb hb13 h2 h1
    rw [hR] at hQ
    have w32 : ∀ n, fW pf bf n → nmr o = 32 → n < 4294967296 := fun n hn h8 => by
      obtain ⟨g1, g2⟩ := hw h8
      subst g1 g2
      exact fW_24.mp hn
    unfold w_Machine_reckonFloating_L43 w_Machine_reckonFloating_L134
    intro v1 e1
    have f1 : v1.toInt = (o - b : Nat) := by
      rw [e1, z_sub, hx, hy]
      omega
    rw [z_le, f1, show (7 : Int32).toInt = 7 from rfl]
    refine ⟨fun e => ⟨k15, fun h4 e4 => ?_⟩, fun e => ⟨k15, ad 37, r9, ad 37, r9, k37, ?_⟩⟩
    · obtain ⟨sg2, nv⟩ := h2 (by omega)
      have hn : gC (gx (D - 1)) = sgA o :: sgA o :: c := by
        rw [hc, sg2]
        rfl
      obtain ⟨s8, w1, w2, w3, w4, w5⟩ := hr.dn hB hS hn h4 e4
      obtain ⟨p1, p2, p3, p4⟩ := hr.tp1 hS hn
      obtain ⟨u1, u2, u3, u4⟩ := hr.tp2 hS hn
      have r94 := s8.1.r (15, 9, 37) (by decide)
      have k374 : xb_k h4 (ad 37) = 103 := s8.1.k 37 (by omega)
      have hm4 : fm h4 F (sgA o) := by
        refine hm.sm ?_ s8.2.2.2.1
        rcases hF with e9 | e9 <;> rw [e9]
        · exact (s8.cm hB (by decide) (fun x hx => by cases hx) (k := 39) (by omega) (by decide)).2
        · exact (s8.cm hB (by decide) (fun x hx => by cases hx) (k := 40) (by omega) (by decide)).2
      have l4 : xb_l h4 = xb_l h := by rw [e4, xh_lI]
      have wa := vr_fW u4 hpb
      have wb := vr_fW p4 hpb
      refine ⟨ad 37, r94, ad 37, r94, k374, w1, ad 37, r94, k374, w2, hm4.1, ?_⟩
      rw [w4, w3, l4]
      refine ex_reckonTwo (w := o - b - 7) hm4 hpb rfl rfl wa wb ?_ (by omega) (fun r14 h14 _ => ⟨k374, w1, fun h17 e17 => ?_⟩)
      · rw [z_sub, f1, show (7 : Int32).toInt = 7 from rfl]
        omega
      · have wr : fW pf bf r14.toBitVec.toNat := by
          rw [h14]
          exact fW_r2 hpb wa wb
        have e9 : r14 = nmI o (nVa (xb_l h (ad 37)) (gO (gx (D - 1)) + c.length)) (nVb o (xb_l h (ad 37)) (gO (gx (D - 1)) + c.length)) := by
          have eb : nVb o (xb_l h (ad 37)) (gO (gx (D - 1)) + c.length) = (xb_l h (ad 37) (gO (gx (D - 1)) + c.length + 1)).toBitVec.toNat := if_pos sg2
          refine nmI_e ?_ (fun h8 => ?_)
          · rw [nv, eb]
            exact h14
          · rw [nv, eb, show fr2 pf bf (o - b - 7) (nVa (xb_l h (ad 37)) (gO (gx (D - 1)) + c.length)) (xb_l h (ad 37) (gO (gx (D - 1)) + c.length + 1)).toBitVec.toNat = r14.toBitVec.toNat from h14.symm]
            exact w32 _ wr h8
        rw [e17, ← w4]
        rw [← e9] at hQ
        exact hQ _ (w5 (fW_vr hpb wr))
    · obtain ⟨sg1, nv⟩ := h1 (by omega)
      have hn : gC (gx (D - 1)) = sgA o :: c := by
        rw [hc, sg1]
        rfl
      obtain ⟨p1, p2, p3, p4⟩ := hr.tp1 hS hn
      have wa := vr_fW p4 hpb
      refine ⟨p1, hm.1, ?_⟩
      rw [p3]
      refine ex_reckonOne (w := o - b) hm hpb rfl wa f1 (by omega) (fun r25 h25 _ => ⟨k37, p1, fun h28 e28 => ?_⟩)
      have wr : fW pf bf r25.toBitVec.toNat := by
        rw [h25]
        exact fW_r1 hpb wa
      have e9 : r25 = nmI o (nVa (xb_l h (ad 37)) (gO (gx (D - 1)) + c.length)) (nVb o (xb_l h (ad 37)) (gO (gx (D - 1)) + c.length)) := by
        refine nmI_e ?_ (fun h8 => ?_)
        · rw [nv]
          exact h25
        · rw [nv, show fr1 pf bf (o - b) (nVa (xb_l h (ad 37)) (gO (gx (D - 1)) + c.length)) = r25.toBitVec.toNat from h25.symm]
          exact w32 _ wr h8
      rw [e28]
      rw [← e9] at hQ
      exact hQ _ (hr.n1 hB hn rfl (fW_vr hpb wr))
  unfold w_Machine_reckonFloating w_Machine_reckonFloating_L12 w_Machine_reckonFloating_L28
  rw [z_lt, hx, show (153 : Int32).toInt = 153 from rfl]
  refine ⟨fun e => ⟨fun _ => ⟨k15, ad 39, hB.r (15, 1, 39) (by decide), fun _ => ?_, fun e9 => absurd rfl e9⟩, fun e9 => absurd rfl e9⟩, fun e => ⟨fun e9 => absurd e9 (by decide), fun _ => ⟨k15, ad 40, hB.r (15, 2, 40) (by decide), fun e9 => absurd e9 (by decide), fun _ => ?_⟩⟩⟩
  · obtain ⟨hA, hR⟩ := sg_6 o (by omega) (by omega)
    exact L43 _ 139 139 24 127 (.inl rfl) (by rw [hA]; exact hf.1) (by rw [hA]; exact .inl ⟨rfl, rfl, rfl⟩) (by rw [hA, hR]) (fun _ => ⟨rfl, rfl⟩) rfl (by omega) (by omega) (fun h9 => ⟨sg_9 o (by omega) (by omega), fun a e => by rw [nmv_k (by omega), show o - 139 - 7 = o - 146 by omega]⟩) (fun h9 => ⟨sg_8 o (by omega) (by omega), fun a e => nmv_j (by omega)⟩)
  · obtain ⟨hA, hR⟩ := sg_7 o (by omega) (by omega)
    exact L43 _ 153 153 53 1023 (.inr rfl) (by rw [hA]; exact hf.2) (by rw [hA]; exact .inr ⟨rfl, rfl, rfl⟩) (by rw [hA, hR]) (fun h8 => by rw [(nmr_f o (by omega)).2.1 (by omega)] at h8; omega) rfl (by omega) (by omega) (fun h9 => ⟨sg_9 o (by omega) (by omega), fun a e => by rw [nmv_m (by omega), show o - 153 - 7 = o - 160 by omega]⟩) (fun h9 => ⟨sg_8 o (by omega) (by omega), fun a e => nmv_l (by omega)⟩)
end NU3
