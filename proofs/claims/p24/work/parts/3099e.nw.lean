-- a run: reckoning
theorem sg_1 : ∀ o, o < 192 → (103 ≤ o ∧ o ≤ 105 → sgN o = 1) := by decide +kernel
theorem sg_2 : ∀ o, o < 192 → (106 ≤ o ∧ o ≤ 120 → sgN o = 2) := by decide +kernel
theorem sg_3 : ∀ o, o < 192 → (121 ≤ o ∧ o ≤ 123 → sgN o = 1) := by decide +kernel
theorem sg_4 : ∀ o, o < 192 → (124 ≤ o ∧ o ≤ 138 → sgN o = 2) := by decide +kernel
theorem sg_5 : ∀ o, o < 192 → (69 ≤ o ∧ o ≤ 138 → sgR o = if o ≤ 120 then 127 else 126) := by decide +kernel
theorem sg_6 : ∀ o, o < 192 → (139 ≤ o ∧ o ≤ 152 → sgA o = 125 ∧ sgR o = 125) := by decide +kernel
theorem sg_7 : ∀ o, o < 192 → (153 ≤ o ∧ o ≤ 166 → sgA o = 124 ∧ sgR o = 124) := by decide +kernel
theorem sg_8 : ∀ o, o < 192 → (139 ≤ o ∧ o ≤ 145 ∨ 153 ≤ o ∧ o ≤ 159 ∨ 167 ≤ o → sgN o = 1) := by decide +kernel
theorem sg_9 : ∀ o, o < 192 → (146 ≤ o ∧ o ≤ 152 ∨ 160 ≤ o ∧ o ≤ 166 → sgN o = 2) := by decide +kernel
section NU3
variable {own own' ad ad' : Nat → Nat} {h h' h1 : xb_H} {W : wD} {σ D : Nat} {gx : Nat → fG} {t P lcn p0 E g : Nat} {lo ν0 : Nat → Int32} {G : ctG}
/-- one value less -/
theorem rX.dn {τ τ' : Int} {c : List Int} (hB : cB own ad h) (hr : rX ad h W D gx t P lcn p0 E lo ν0 g G) (hS : mS ad h) (hn : gC (gx (D - 1)) = τ :: τ' :: c) : ∀ h8 : xb_H, h8 = xb_I h (ad 15) 10 (xb_i h (ad 15) 10 - 1) → stp [15] [] own ad own ad h h8 ∧ vp_in (xb_i h8 (ad 15) 10 - 1) (xb_n h8 (ad 37)) ∧ vp_in (xb_i h8 (ad 15) 10) (xb_n h8 (ad 37)) ∧ (xb_i h8 (ad 15) 10).toNatClampNeg = gO (gx (D - 1)) + c.length + 1 ∧ (xb_i h8 (ad 15) 10 - 1).toNatClampNeg = gO (gx (D - 1)) + c.length ∧ (∀ {ρ : Int} {v : Int64}, vr ρ v → nX own ad h W D gx t P lcn p0 E lo ν0 g G (ρ :: c) (xb_L h8 (ad 37) (xb_i h8 (ad 15) 10 - 1).toNatClampNeg v)) := by
  intro h8 e8
  obtain ⟨p1, p2, p3, p4⟩ := hr.tp1 hS hn
  have S4 := hS.2.2.2
  have i8 : xb_i h8 (ad 15) 10 = xb_i h (ad 15) 10 - 1 := by rw [e8, xh_iI, if_pos rfl, xh_up, if_pos rfl]
  simp only [List.length_cons] at p1 p2 p3
  have q2 : (xb_i h8 (ad 15) 10 - 1).toInt = (gO (gx (D - 1)) + c.length : Nat) := by
    rw [i8, z_sub, p2, show (1 : Int32).toInt = 1 from rfl]
    have := z_in.mp p1
    omega
  have s8 : stp [15] [] own ad own ad h h8 := by rw [e8]; exact stp.Ic hB
  have n8 : xb_n h8 = xb_n h := by rw [e8, xh_nI]
  refine ⟨s8, ?_, by rw [i8, n8]; exact p1, by rw [i8]; exact p3, by rw [z_cl, q2, Int.toNat_natCast], fun hv => ?_⟩
  · rw [z_in, q2, n8]
    have := z_in.mp p1
    omega
  · have e9 : (xb_i h8 (ad 15) 10 - 1).toNatClampNeg = gO (gx (D - 1)) + c.length := by rw [z_cl, q2, Int.toNat_natCast]
    rw [e9, e8]
    exact hr.n2 hB hn rfl (by rw [p2]; omega) hv
theorem mc_reckonShort {x1 : Int32} {o : Nat} {c : List Int} {Qr : xb_H → Prop} (hB : cB own ad h) (hW : wI own ad h W σ) (hS : mS ad h) (hr : rX ad h W D gx t P lcn p0 E lo ν0 g G) (hx : x1.toInt = o) (h69 : 103 ≤ o) (ho : o ≤ 120) (hc : gC (gx (D - 1)) = List.replicate (sgN o) (sgA o) ++ c) (hQ : ∀ h' : xb_H, nX own ad h W D gx t P lcn p0 E lo ν0 g G (127 :: c) h' → Qr h') : w_Machine_reckonShort (ad 15) x1 h Qr := by
  have k15 : xb_k h (ad 15) = 8 := hB.k 15 (by omega)
  have k37 : xb_k h (ad 37) = 103 := hB.k 37 (by omega)
  have r9 : xb_r h (ad 15) 9 = some (ad 37) := hB.r (15, 9, 37) (by decide)
  unfold w_Machine_reckonShort
  by_cases h9 : o ≤ 105
  · have hn : gC (gx (D - 1)) = sgA o :: c := by
      have : sgN o = 1 := sg_1 o (by omega) (by omega)
      rw [hc, this]
      rfl
    obtain ⟨p1, p2, p3, p4⟩ := hr.tp1 hS hn
    refine ⟨k15, ad 37, r9, k37, p1, fun v5 e5 => ⟨fun e => ?_, fun _ => ⟨ad 37, r9, sp_countShort (fun r15 hr15 _ => ⟨k37, p1, fun h18 e18 => ?_⟩)⟩⟩⟩
    · rw [z_lt, hx, show (105 : Int32).toInt = 105 from rfl] at e
      omega
    · rw [e18]
      refine hQ _ (hr.n1 hB hn p3 (fun _ => ?_))
      have := z_rg r15
      rw [Z_of32]
      omega
  · have hn : gC (gx (D - 1)) = sgA o :: sgA o :: c := by
      have : sgN o = 2 := sg_2 o (by omega) (by omega)
      rw [hc, this]
      rfl
    obtain ⟨p1, p2, p3, p4⟩ := hr.tp1 hS hn
    obtain ⟨u1, u2, u3, u4⟩ := hr.tp2 hS hn
    have L87 : ∀ a b d y0 y1 y2 : Int32, w_Machine_reckonShort_L87 Qr (ad 15) a b d y0 y1 y2 h := by
      intro a b d y0 y1 y2
      unfold w_Machine_reckonShort_L87
      refine sp_trapOf (fun r2 _ => ⟨fun _ => ⟨k15, fun h5 e5 => ?_⟩, fun _ => ⟨k15, hr.nf hB hW hS (fun h' hn' _ => hQ h' hn')⟩⟩)
      obtain ⟨s8, w1, w2, w3, w4, w5⟩ := hr.dn hB hS hn h5 e5
      exact ⟨ad 37, s8.1.r (15, 9, 37) (by decide), sp_reckonShort (fun r8 _ => ⟨s8.1.k 37 (by omega), w1, fun h11 e11 => by rw [e11]; exact hQ _ (w5 vr_low)⟩)⟩
    have L70 : ∀ a b d y0 y1 : Int32, w_Machine_reckonShort_L70 Qr (ad 15) a b d y0 y1 h := by
      intro a b d y0 y1
      unfold w_Machine_reckonShort_L70 w_Machine_reckonShort_L86
      exact ⟨fun _ => L87 _ _ _ _ _ _, fun _ => ⟨fun _ => L87 _ _ _ _ _ _, fun _ => L87 _ _ _ _ _ _⟩⟩
    refine ⟨k15, ad 37, r9, k37, p1, fun v5 e5 => ⟨fun e => ⟨ad 37, r9, k37, u1, fun v10 _ v11 _ => ⟨fun _ => L70 _ _ _ _ _, fun _ => L70 _ _ _ _ _⟩⟩, fun e => ?_⟩⟩
    rw [z_lt, hx, show (105 : Int32).toInt = 105 from rfl] at e
    omega
theorem mc_reckonLong {x1 : Int32} {o : Nat} {c : List Int} {Qr : xb_H → Prop} (hB : cB own ad h) (hW : wI own ad h W σ) (hS : mS ad h) (hr : rX ad h W D gx t P lcn p0 E lo ν0 g G) (hx : x1.toInt = o) (h69 : 121 ≤ o) (ho : o ≤ 138) (hc : gC (gx (D - 1)) = List.replicate (sgN o) (sgA o) ++ c) (hQ : ∀ h' : xb_H, nX own ad h W D gx t P lcn p0 E lo ν0 g G (126 :: c) h' → Qr h') : w_Machine_reckonLong (ad 15) x1 h Qr := by
  have k15 : xb_k h (ad 15) = 8 := hB.k 15 (by omega)
  have k37 : xb_k h (ad 37) = 103 := hB.k 37 (by omega)
  have r9 : xb_r h (ad 15) 9 = some (ad 37) := hB.r (15, 9, 37) (by decide)
  have v6 : ∀ {x : Int64}, vr 126 x := fun {x} => vr_no (by omega) (by omega)
  unfold w_Machine_reckonLong
  by_cases h9 : o ≤ 123
  · have hn : gC (gx (D - 1)) = sgA o :: c := by
      have : sgN o = 1 := sg_3 o (by omega) (by omega)
      rw [hc, this]
      rfl
    obtain ⟨p1, p2, p3, p4⟩ := hr.tp1 hS hn
    refine ⟨k15, ad 37, r9, k37, p1, fun v5 e5 => ⟨fun e => ?_, fun _ => ⟨ad 37, r9, sp_countLong (fun r15 _ => ⟨k37, p1, fun h18 e18 => ?_⟩)⟩⟩⟩
    · rw [z_lt, hx, show (123 : Int32).toInt = 123 from rfl] at e
      omega
    · rw [e18]
      exact hQ _ (hr.n1 hB hn p3 v6)
  · have hn : gC (gx (D - 1)) = sgA o :: sgA o :: c := by
      have : sgN o = 2 := sg_4 o (by omega) (by omega)
      rw [hc, this]
      rfl
    obtain ⟨p1, p2, p3, p4⟩ := hr.tp1 hS hn
    obtain ⟨u1, u2, u3, u4⟩ := hr.tp2 hS hn
    have L93 : ∀ (a b : Int64) (d y0 y1 y2 : Int32), w_Machine_reckonLong_L93 Qr (ad 15) a b d y0 y1 y2 h := by
      intro a b d y0 y1 y2
      unfold w_Machine_reckonLong_L93
      refine sp_trapOf (fun r2 _ => ⟨fun _ => ⟨k15, fun h5 e5 => ?_⟩, fun _ => ⟨k15, hr.nf hB hW hS (fun h' hn' _ => hQ h' hn')⟩⟩)
      obtain ⟨s8, w1, w2, w3, w4, w5⟩ := hr.dn hB hS hn h5 e5
      exact ⟨ad 37, s8.1.r (15, 9, 37) (by decide), sp_reckonLong (fun r8 _ => ⟨s8.1.k 37 (by omega), w1, fun h11 e11 => by rw [e11]; exact hQ _ (w5 v6)⟩)⟩
    have L71 : ∀ (a b : Int64) (d y0 y1 : Int32), w_Machine_reckonLong_L71 Qr (ad 15) a b d y0 y1 h := by
      intro a b d y0 y1
      unfold w_Machine_reckonLong_L71 w_Machine_reckonLong_L92
      exact ⟨fun _ => L93 _ _ _ _ _ _, fun _ => ⟨fun _ => L93 _ _ _ _ _ _, fun _ => L93 _ _ _ _ _ _⟩⟩
    refine ⟨k15, ad 37, r9, k37, p1, fun v5 e5 => ⟨fun e => ⟨ad 37, r9, k37, u1, fun v10 _ v11 _ => ⟨fun _ => L71 _ _ _ _ _, fun _ => L71 _ _ _ _ _⟩⟩, fun e => ?_⟩⟩
    rw [z_lt, hx, show (123 : Int32).toInt = 123 from rfl] at e
    omega
theorem mc_reckonWhole {x1 : Int32} {o : Nat} {c : List Int} {Qr : xb_H → Prop} (hB : cB own ad h) (hW : wI own ad h W σ) (hS : mS ad h) (hf : fI ad h) (hr : rX ad h W D gx t P lcn p0 E lo ν0 g G) (hx : x1.toInt = o) (h69 : 69 ≤ o) (ho : o ≤ 138) (hc : gC (gx (D - 1)) = List.replicate (sgN o) (sgA o) ++ c) (hQ : ∀ h' : xb_H, nX own ad h W D gx t P lcn p0 E lo ν0 g G (sgR o :: c) h' → Qr h') : w_Machine_reckonWhole (ad 15) x1 h Qr := by
  have k15 : xb_k h (ad 15) = 8 := hB.k 15 (by omega)
  have hR := sg_5 o (by omega) (by omega)
  rw [hR] at hQ
  unfold w_Machine_reckonWhole w_Machine_reckonWhole_L33
  rw [z_lt, z_lt, hx, show (102 : Int32).toInt = 102 from rfl, show (120 : Int32).toInt = 120 from rfl]
  refine ⟨fun e1 => ⟨fun e2 => ⟨k15, mc_reckonLong hB hW hS hr hx (by omega) ho hc (fun h' h9 _ => hQ h' ?_)⟩, fun e2 => ⟨k15, mc_reckonShort hB hW hS hr hx (by omega) (by omega) hc (fun h' h9 _ => hQ h' ?_)⟩⟩, fun e1 => ⟨k15, mc_compare hB hS hf hr hx h69 (by omega) hc (fun h' h9 _ => hQ h' ?_)⟩⟩
  · rw [if_neg (by omega)]
    exact h9
  · rw [if_pos (by omega)]
    exact h9
  · rw [if_pos (by omega)]
    exact h9
theorem mc_reckonFloating {x1 : Int32} {o : Nat} {c : List Int} {Qr : xb_H → Prop} (hB : cB own ad h) (hS : mS ad h) (hf : fI ad h) (hr : rX ad h W D gx t P lcn p0 E lo ν0 g G) (hx : x1.toInt = o) (h69 : 139 ≤ o) (ho : o ≤ 166) (hc : gC (gx (D - 1)) = List.replicate (sgN o) (sgA o) ++ c) (hQ : ∀ h' : xb_H, nX own ad h W D gx t P lcn p0 E lo ν0 g G (sgR o :: c) h' → Qr h') : w_Machine_reckonFloating (ad 15) x1 h Qr := by
  have k15 : xb_k h (ad 15) = 8 := hB.k 15 (by omega)
  have k37 : xb_k h (ad 37) = 103 := hB.k 37 (by omega)
  have r9 : xb_r h (ad 15) 9 = some (ad 37) := hB.r (15, 9, 37) (by decide)
  have L43 : ∀ (F : Nat) (y : Int32) (b : Nat), F = ad 39 ∨ F = ad 40 → fm h F (sgA o) → sgR o = sgA o → y.toInt = b → b ≤ o → (7 + b ≤ o → sgN o = 2) → (o < 7 + b → sgN o = 1) → w_Machine_reckonFloating_L43 Qr (ad 15) F y x1 h := by
    intro F y b hF hm hR hy hb h2 h1
    rw [hR] at hQ
    unfold w_Machine_reckonFloating_L43 w_Machine_reckonFloating_L134
    intro v1 e1
    have f1 : v1.toInt = (o : Int) - b := by
      rw [e1, z_sub, hx, hy]
      omega
    rw [z_le, f1, show (7 : Int32).toInt = 7 from rfl]
    refine ⟨fun e => ⟨k15, fun h4 e4 => ?_⟩, fun e => ⟨k15, ad 37, r9, ad 37, r9, k37, ?_⟩⟩
    · have hn : gC (gx (D - 1)) = sgA o :: sgA o :: c := by
        rw [hc, h2 (by omega)]
        rfl
      obtain ⟨s8, w1, w2, w3, w4, w5⟩ := hr.dn hB hS hn h4 e4
      obtain ⟨p1, p2, p3, p4⟩ := hr.tp1 hS hn
      obtain ⟨u1, u2, u3, u4⟩ := hr.tp2 hS hn
      have r94 := s8.1.r (15, 9, 37) (by decide)
      have k374 : xb_k h4 (ad 37) = 103 := s8.1.k 37 (by omega)
      have hm4 : fm h4 F (sgA o) := by
        refine hm.sm ?_ s8.2.2.2.1
        rcases hF with e9 | e9 <;> rw [e9]
        · exact (s8.cm hB (by decide) (fun x hx => by cases hx) (k := 39) (by omega) (by decide)).2
        · exact (s8.cm hB (by decide) (fun x hx => by cases hx) (k := 40) (by omega) (by decide)).2
      have l4 : xb_l h4 = xb_l h := by rw [e4, xh_lI]
      refine ⟨ad 37, r94, ad 37, r94, k374, w1, ad 37, r94, k374, w2, hm4.1, sp_reckonTwo hm4 ?_ ?_ (fun r14 h14 _ => ⟨k374, w1, fun h17 e17 => by rw [e17]; exact hQ _ (w5 h14)⟩)⟩
      · rw [w4, l4]
        exact u4
      · rw [w3, l4]
        exact p4
    · have hn : gC (gx (D - 1)) = sgA o :: c := by
        rw [hc, h1 (by omega)]
        rfl
      obtain ⟨p1, p2, p3, p4⟩ := hr.tp1 hS hn
      exact ⟨p1, hm.1, sp_reckonOne hm (by rw [p3]; exact p4) (fun r25 h25 _ => ⟨k37, p1, fun h28 e28 => by rw [e28]; exact hQ _ (hr.n1 hB hn p3 h25)⟩)⟩
  unfold w_Machine_reckonFloating w_Machine_reckonFloating_L12 w_Machine_reckonFloating_L28
  rw [z_lt, hx, show (153 : Int32).toInt = 153 from rfl]
  refine ⟨fun e => ⟨fun _ => ⟨k15, ad 39, hB.r (15, 1, 39) (by decide), fun _ => ?_, fun e9 => absurd rfl e9⟩, fun e9 => absurd rfl e9⟩, fun e => ⟨fun e9 => absurd e9 (by decide), fun _ => ⟨k15, ad 40, hB.r (15, 2, 40) (by decide), fun e9 => absurd e9 (by decide), fun _ => ?_⟩⟩⟩
  · obtain ⟨hA, hR⟩ := sg_6 o (by omega) (by omega)
    exact L43 _ 139 139 (.inl rfl) (by rw [hA]; exact hf.1) (by rw [hA, hR]) rfl (by omega) (fun h9 => sg_9 o (by omega) (by omega)) (fun h9 => sg_8 o (by omega) (by omega))
  · obtain ⟨hA, hR⟩ := sg_7 o (by omega) (by omega)
    exact L43 _ 153 153 (.inr rfl) (by rw [hA]; exact hf.2) (by rw [hA, hR]) rfl (by omega) (fun h9 => sg_9 o (by omega) (by omega)) (fun h9 => sg_8 o (by omega) (by omega))
end NU3
