-- a run: call, from its start
/-- what a call comes to -/
def clR (W : wD) (D : Nat) (gx : Nat → fG) (v : Nat → Int64) (f T n : Nat) (A : Int) (o : Oc) (e : Option Int64) : Prop :=
  (f < wno W ∧ f < 8192 ∧ wfo W f < wic W ∧ wff W (wfo W f) ≤ f ∧ f - wff W (wfo W f) + ni (wd W (wfo W f)) 0 < nf (wd W (wfo W f)) ∧ e = none ∧ o = cfO D gx v T A (wfo W f) (f - wff W (wfo W f) + ni (wd W (wfo W f)) 0) (fT W f).1.length (dvs (wd W (wfo W f)) 9 (5 * (f - wff W (wfo W f)) + 1)).toInt.toNat (dvs (wd W (wfo W f)) 9 (5 * (f - wff W (wfo W f)))).toInt.toNat (dvs (wd W (wfo W f)) 9 (5 * (f - wff W (wfo W f)) + 4)).toInt.toNat) ∨ (8192 ≤ f ∧ o = (hcO n D gx v T A).1 ∧ e = (hcO n D gx v T A).2)
section RNB
variable {own own' own1 ad ad' ad1 : Nat → Nat} {h h' h1 : xb_H} {W : wD} {σ D : Nat} {gx : Nat → fG}
theorem mc_call {f T n0 rc rs bc bs : Nat} {x1 x2 : Int32} {A0 : Int} {Qr : xb_H → Nat → Nat → Prop} (hB : cB own ad h) (hW : wI own ad h W σ) (hS : mS ad h) (hc : cP ad h W D gx f T) (hX : ∀ i, i < wic W → moB (wd W i)) (hn0 : (xb_i h (ad 27) 1).toInt = n0) (hA0 : 0 < D → (xb_i h (ad 15) 15).toInt = A0) (hfv : vf W f) (hx1 : x1.toInt = f) (hx2 : 0 < D → x2.toInt = gA (gx (D - 1))) (hg : bgv ad h rc rs bc bs)
    (hQ : ∀ (h' : xb_H) (own' ad' : Nat → Nat) (bc' bs' : Nat) (o : Oc) (e : Option Int64), caQ own ad h W σ rc rs own' ad' h' bc' bs' o e → clR W D gx (xb_l h (ad 37)) f T n0 A0 o e → Qr h' bc' bs') : w_Machine_call (ad 15) x1 x2 h bc bs Qr := by
  obtain ⟨⟨d1, d2, d3, d4⟩, ⟨t1, t2, t3⟩, -⟩ := id hc
  obtain ⟨S1, S2, S3, S4⟩ := id hS
  unfold w_Machine_call w_Machine_call_L99
  refine ⟨fun e => ?_, fun e => ?_⟩
  · rw [z_lt, hx1, show (8192 : Int32).toInt = 8192 from rfl] at e
    have hf : f < wno W := by
      rcases hfv with h9 | h9 <;> omega
    obtain ⟨o1, o2, o3⟩ := hW.1
    obtain ⟨w1, w2, w3, w4⟩ := o3 f hf
    obtain ⟨i, hi⟩ : ∃ i, i = wfo W f := ⟨_, rfl⟩
    rw [← hi] at w1 w2 w3 w4
    obtain ⟨l5, hiO⟩ := hW.2.2.2.2.2.2.1.2.2.2 i w2
    obtain ⟨⟨q1, q2, q3, q4, q5⟩, -⟩ := id hiO
    obtain ⟨n1, n2, n3, n4, n5, -⟩ := q5.nn
    obtain ⟨k, hk⟩ : ∃ k, k = f - wff W i + ni (wd W i) 0 := ⟨_, rfl⟩
    obtain ⟨t, P, lcn, p0, E, lo, ν0, g, G, hb, h9⟩ := hX i w2 k (by omega) (by omega)
    obtain ⟨⟨c1, c2, c3, c4, c5⟩, ⟨b1, b2, b3, b4, b5, b6, b7, b8⟩, b9, -⟩ := id hb
    have hft : fT W f = ftm (wd W i) k := by
      unfold fT
      rw [if_neg (by omega), ← hi, ← hk]
    have eP : (fT W f).1.length = P := by
      rw [hft]
      unfold ftm tyf
      rw [c3, Int.toNat_natCast, c5, Int.toNat_natCast, ptl_len]
    rw [eP] at t1 t2
    have ek : k - ni (wd W i) 0 = f - wff W i := by omega
    have hcl : ∀ o : Oc, o = cfO D gx (xb_l h (ad 37)) T A0 i k P lcn p0 g → clR W D gx (xb_l h (ad 37)) f T n0 A0 o none := fun o ho => by
      rw [ek] at b1 b2 b6
      refine .inl ⟨hf, by omega, by rw [← hi]; exact w2, by rw [← hi]; exact w3, by rw [← hi, ← hk]; exact c2, rfl, ?_⟩
      rw [ho, ← hi, ← hk, eP, b1, b2, b6, Int.toNat_natCast, Int.toNat_natCast, Int.toNat_natCast]
    have hfl : 200 ≤ D ∨ 16384 < T + P + lcn + g → cfO D gx (xb_l h (ad 37)) T A0 i k P lcn p0 g = trD 9 D gx A0 := fun e9 => if_pos e9
    obtain ⟨-, -, -, ⟨j1, j2, j3, j4⟩, hNd⟩ := id q5.1
    have k15 : xb_k h (ad 15) = 8 := hB.k 15 (by omega)
    refine ⟨k15, ad 14, hB.r (15, 0, 14) (by decide), hB.k 14 (by omega), wI_ownerOf hB hW.1 hW.2.2.2.2.2.2.1 hx1 hf ?_⟩
    rw [← hi]
    intro _
    refine ⟨q1, _, q4, iO_numberOf hiO o2 hx1 w3 w4 (fun r10 e10 _ => ⟨q5.1.k, _, j1, j2, by rw [z_in, j3]; decide, fun v15 e15 => ?_⟩)⟩
    rw [← hk] at e10
    have ev15 : v15.toInt = (k - ni (wd W i) 0 : Nat) := by
      rw [e15, z_sub, e10, j4, n5 0 (by omega)]
      omega
    refine ⟨_, q5.1.row (k := 9) (by omega), q5.1.krow (by omega), md_at (c := 5) q5.1 (i := k - ni (wd W i) 0) (j := 1) (by omega) rfl ev15 rfl (by omega) h9 (fun r19 e19 _ => ⟨_, q5.1.row (k := 9) (by omega), q5.1.krow (by omega), md_at (c := 5) q5.1 (i := k - ni (wd W i) 0) (j := 4) (by omega) rfl ev15 rfl (by omega) h9 (fun r23 e23 _ v24 e24 => ?_)⟩)⟩
    rw [b2] at e19
    rw [b6] at e23
    have f19 : r19.toInt = lcn := by omega
    have f23 : r23.toInt = g := by omega
    have f24 : v24.toInt = (T + P + lcn + g : Nat) := by
      have y1 : (xb_i h (ad 15) 10 + r19).toInt = (T + P + lcn : Nat) := by
        rw [z_add, t1, f19]
        omega
      rw [e24, z_add, y1, f23]
      omega
    refine ⟨fun e4 => ⟨k15, ca_fall (κ := 9) (A := A0) hB hW hS hc hg rfl hA0 (fun h' own' ad' bc' bs' hq => hQ h' own' ad' bc' bs' _ _ hq (hcl _ (hfl ?_).symm)) (fun h' h9 _ => h9)⟩, fun e4 => ⟨fun e5 => ?_, fun e5 => ⟨k15, ca_fall (κ := 9) (A := A0) hB hW hS hc hg rfl hA0 (fun h' own' ad' bc' bs' hq => hQ h' own' ad' bc' bs' _ _ hq (hcl _ (hfl ?_).symm)) (fun h' h9 _ => h9)⟩⟩⟩
    · rw [z_le, d3, show (200 : Int32).toInt = 200 from rfl] at e4
      exact .inl (by omega)
    rotate_left
    · rw [z_le, f24, show (16384 : Int32).toInt = 16384 from rfl] at e5
      exact .inr (by omega)
    rw [z_le, d3, show (200 : Int32).toInt = 200 from rfl] at e4
    rw [z_le, f24, show (16384 : Int32).toInt = 16384 from rfl] at e5
    refine mc_makeRoom (w := T + P + lcn + g) hB hS f24 (by omega) hg (fun h27 own1 q bc2 bs2 s27 y1 y2 y3 y4 y5 y6 y7 _ => ?_)
    generalize had : va_up ad 37 q = ad1 at s27 y7
    have A : ∀ k, k ≠ 37 → ad1 k = ad k := fun k hk => by rw [← had, xh_up, if_neg hk]
    have a37 : ad1 37 = q := by rw [← had, xh_up, if_pos rfl]
    have a15 := A 15 (by omega)
    have a38 := A 38 (by omega)
    have hB1 := s27.1
    have r9 := hB1.r (15, 9, 37) (by decide)
    dsimp only at r9
    rw [a15, a37] at r9
    have kq : xb_k h27 q = 103 := by
      have := hB1.k 37 (by omega)
      rw [a37] at this
      exact this
    obtain ⟨y1, y1l⟩ := y1
    have z1 : (xb_i h27 (ad 15) 10).toInt = (T + P : Nat) := by rw [y1]; exact t1
    have z2 : (xb_i h27 (ad 15) 10 + r19).toInt = (T + P + lcn : Nat) := by rw [z_add, z1, f19]; omega
    refine ⟨q, r9, sp_fill1 kq (by omega) (by omega) (by omega) (by omega) (fun fv g1 g2 _ => ?_)⟩
    obtain ⟨h30, e30⟩ : ∃ h30, h30 = xb_La h27 q fv := ⟨_, rfl⟩
    rw [← e30]
    have s30 : stp [37] [] own1 ad1 own1 ad1 h27 h30 := by
      rw [e30, ← a37]
      exact ⟨hB1, fun _ _ => rfl, fun _ _ => rfl, fun _ _ => ⟨rfl, rfl⟩, fun b _ _ hb => xh_smLa _ _ (hb 37 (by simp)), fun _ => .inl rfl, fun _ _ => rfl⟩
    have i30 : xb_i h30 = xb_i h27 := by rw [e30]; rfl
    have n30 : xb_n h30 = xb_n h27 := by rw [e30]; rfl
    have r30 : xb_r h30 = xb_r h27 := by rw [e30]; rfl
    have l30 : xb_l h30 q = fv := by rw [e30, xh_lLa, if_pos rfl]
    have nq15 : ad 15 ≠ q := by rw [← a37, ← a15]; exact hB1.ne (by omega) (by omega) (by omega)
    have l3015 : xb_l h30 (ad 15) = xb_l h (ad 15) := by rw [e30, xh_lLa, if_neg nq15, y1l]
    have c38 := (s27.cm hB (by decide) (fun x hx => by cases hx) (k := 38) (by omega) (by decide)).2
    have S30 : stp [15, 37] [] own ad own1 ad1 h h30 := (s27.tr s30).mono (by decide) (fun k hk => by simpa using hk)
    -- what the call itself then does
    have go : ∀ h36 : xb_H, stp [38] [] own1 ad1 own1 ad1 h30 h36 → xb_i h36 (ad 15) = xb_i h (ad 15) → xb_l h36 = xb_l h30 → (∀ j, (0 < D → j ≠ 5 * (D - 1) + 2) → xb_i h36 (ad 38) j = xb_i h (ad 38) j) → (0 < D → (xb_i h36 (ad 38) (5 * (D - 1) + 2)).toInt = gA (gx (D - 1))) → w_Machine_call_L154 Qr (ad 15) (wia W i) (wim W i) r10 v15 r19 h36 bc2 bs2 := by
      intro h36 s36 m1 m2 m3 m4
      have n36 : ∀ y, y < 41 → xb_n h36 (ad1 y) = xb_n h27 (ad1 y) := fun y hy => by rw [(s36.2.2.2.1 _ (s30.1.z y hy)).2, n30]
      have S36 : stp [15, 37, 38] [] own ad own1 ad1 h h36 := (S30.tr s36).mono (by decide) (fun k hk => by simpa using hk)
      have nh : ∀ y, y < 41 → xb_n h36 (ad y) = xb_n h (ad y) := fun y hy => (S36.2.2.2.1 _ (hB.z y hy)).2
      have hS36 : mS ad1 h36 := ⟨by rw [A 36 (by omega), nh 36 (by omega)]; exact S1, by rw [A 38 (by omega), nh 38 (by omega)]; exact S2, by rw [n36 37 (by omega), a37]; omega, by rw [n36 37 (by omega), a37]; exact y5⟩
      have hW36 : wI own1 ad1 h36 W σ := by
        obtain ⟨m, v1, v2⟩ := hW.2.2.2.2.1
        refine hW.ca hB (S36.mono (by decide) (fun k hk => hk)) ⟨m, ?_, v2⟩
        rw [A 27 (by omega), A 28 (by omega)]
        exact v1.fr (S36.cm hB (by decide) (fun x hx => by cases hx) (k := 27) (by omega) (by decide)).2 S36.2.2.2.1
      refine mc_call154 (A0 := A0) hB hW hS hc (by omega) w2 hft hb h9 e10 ev15 f19 S36 m1 (by rw [m2]; exact l3015) hS36 hW36 (by rw [n36 37 (by omega), a37]; exact y4) (by rw [n36 37 (by omega), a37]; exact y3) (fun j hj => ?_) (fun j hj1 hj2 => ?_) m3 m4 ?_ (by omega) (fun h' own' ad' bc' bs' hq => hQ h' own' ad' bc' bs' _ _ hq (hcl _ rfl))
      · rw [m2, a37, l30, g2 j (.inl (by omega)), y6 j (by omega)]
      · rw [m2, a37, l30, g1 j (by omega) (by omega)]
      · unfold bgv
        rw [n36 37 (by omega)]
        exact (y7.sp (c := 0) (s := 0) (ad' := ad1) (h' := h36) (fun y hy => ⟨rfl, n36 y hy⟩)).2.2
    refine ⟨fun e0 => ?_, fun e0 => ?_⟩
    · rw [i30, y1, z_le, d3, show (0 : Int32).toInt = 0 from rfl] at e0
      exact go h30 ((stp.rf s30.1).mono (by decide) (fun k hk => hk)) (by rw [i30, y1]) rfl (fun j _ => by rw [i30, c38.1]) (fun h0 => by omega)
    · have e0' : 0 < D := by
        rw [i30, y1, z_le, d3, show (0 : Int32).toInt = 0 from rfl] at e0
        omega
      obtain ⟨p1, p2⟩ := z_fr (x := xb_i h30 (ad 15) 4) (y := 2) (j := 2) (by rw [i30, y1]; exact d3) e0' d1 rfl (by omega)
      rw [p2]
      have r11 := s30.1.r (15, 11, 38) (by decide)
      dsimp only at r11
      rw [a15, a38] at r11
      have k38 := s30.1.k 38 (by omega)
      rw [a38] at k38
      have n38 : xb_n h30 (ad 38) = 1000 := by rw [(S30.2.2.2.1 _ (hB.z 38 (by omega))).2]; exact S2
      refine ⟨ad 38, r11, k38, by rw [z_in, p1, n38]; omega, fun h36 e36 => ?_⟩
      have ne : ad 15 ≠ ad 38 := hB.ne (by omega) (by omega) (by omega)
      have i36 : xb_i h36 (ad 38) = va_up (xb_i h (ad 38)) (5 * (D - 1) + 2) x2 := by rw [e36, xh_iI, if_pos rfl, i30, c38.1]
      refine go h36 (by rw [e36, ← a38]; exact stp.Ic s30.1) (by rw [e36, xh_iI, if_neg ne, i30, y1]) (by rw [e36, xh_lI]) (fun j hj => by rw [i36, xh_up, if_neg (hj e0')]) (fun _ => by rw [i36, xh_up, if_pos rfl]; exact hx2 e0')
  · rw [z_lt, hx1, show (8192 : Int32).toInt = 8192 from rfl] at e
    exact ⟨hB.k 15 (by omega), mc_callHost (n0 := n0) (A0 := A0) hB hW hS hc hn0 hA0 (by omega) hx2 hg (fun h' own' ad' bc' bs' h9 _ => hQ h' own' ad' bc' bs' _ _ h9 (.inr ⟨by omega, rfl, rfl⟩))⟩
end RNB
