-- a run: call
/-- a function is called -/
def cfO (D : Nat) (gx : Nat → fG) (v : Nat → Int64) (T : Nat) (A : Int) (i k P lcn p0 g : Nat) : Oc := if 200 ≤ D ∨ 16384 < T + P + lcn + g then trD 9 D gx A else .inl (D + 1, va_up gx D (i, k, T, T + P + lcn, p0, [], []), fun j => if T + P ≤ j ∧ j < T + P + lcn then 0 else v j)
section RNA
variable {own own' own1 ad ad' ad1 : Nat → Nat} {h h' h1 : xb_H} {W : wD} {σ D : Nat} {gx : Nat → fG}
theorem mc_call154 {f T i k t P lcn p0 E g rc rs bc bs : Nat} {lo ν0 : Nat → Int32} {G : ctG} {x5 x6 x7 : Int32} {Qr : xb_H → Nat → Nat → Prop} (hB : cB own ad h) (hW : wI own ad h W σ) (hS : mS ad h) (hc : cP ad h W D gx f T) (hD : D < 200) (hi : i < wic W) (hft : fT W f = ftm (wd W i) k) (hb : fB (wd W i) k t P lcn p0 E lo ν0 g G) (h9 : 5 * (k - ni (wd W i) 0) + 5 ≤ dn (wd W i) 9)
    (hx5 : x5.toInt = k) (hx6 : x6.toInt = (k - ni (wd W i) 0 : Nat)) (hx7 : x7.toInt = lcn) (s1 : stp [15, 37, 38] [] own ad own1 ad1 h h1) (ei : xb_i h1 (ad 15) = xb_i h (ad 15)) (eil : xb_l h1 (ad 15) = xb_l h (ad 15)) (hS1 : mS ad1 h1) (hW1 : wI own1 ad1 h1 W σ) (nV : xb_n h (ad 37) ≤ xb_n h1 (ad1 37)) (nV2 : T + P + lcn + g ≤ xb_n h1 (ad1 37)) (hv : ∀ j, j < T + P → xb_l h1 (ad1 37) j = xb_l h (ad 37) j) (hz : ∀ j, T + P ≤ j → j < T + P + lcn → xb_l h1 (ad1 37) j = 0)
    (hfr : ∀ j, (0 < D → j ≠ 5 * (D - 1) + 2) → xb_i h1 (ad 38) j = xb_i h (ad 38) j) (hbD : 0 < D → (xb_i h1 (ad 38) (5 * (D - 1) + 2)).toInt = gA (gx (D - 1))) (hg : bgv ad1 h1 rc rs bc bs) (hle : T + P + lcn + g ≤ 16384) {A0 : Int}
    (hQ : ∀ (h' : xb_H) (own' ad' : Nat → Nat) (bc' bs' : Nat), caQ own ad h W σ rc rs own' ad' h' bc' bs' (cfO D gx (xb_l h (ad 37)) T A0 i k P lcn p0 g) none → Qr h' bc' bs') : w_Machine_call_L154 Qr (ad 15) (wia W i) (wim W i) x5 x6 x7 h1 bc bs := by
  obtain ⟨⟨d1, d2, d3, d4⟩, ⟨t1, t2, t3⟩, -⟩ := id hc
  obtain ⟨⟨c1, c2, c3, c4, c5⟩, ⟨b1, b2, b3, b4, b5, b6, b7, b8⟩, b9, -⟩ := id hb
  obtain ⟨S1, S2, S3, S4⟩ := id hS1
  have A : ∀ j, j ∉ itl → ad1 j = ad j := s1.2.2.2.2.2.2
  have a15 := A 15 (by decide)
  have a38 := A 38 (by decide)
  obtain ⟨l5, ⟨⟨q1, q2, q3, q4, q5⟩, -⟩⟩ := hW1.2.2.2.2.2.2.1.2.2.2 _ hi
  have eP : (fT W f).1.length = P := by
    rw [hft]
    unfold ftm tyf
    rw [c3, Int.toNat_natCast, c5, Int.toNat_natCast, ptl_len]
  rw [eP] at t1
  have ei' : xb_i h1 (ad1 15) = xb_i h (ad 15) := by rw [a15]; exact ei
  have hfr' : ∀ j, (0 < D → j ≠ 5 * (D - 1) + 2) → xb_i h1 (ad1 38) j = xb_i h (ad 38) j := by rw [a38]; exact hfr
  have hbD' : 0 < D → (xb_i h1 (ad1 38) (5 * (D - 1) + 2)).toInt = gA (gx (D - 1)) := by rw [a38]; exact hbD
  clear ei hfr hbD
  rw [← a15]
  have hB1 := s1.1
  have n15 : ∀ k, k < 41 → k ≠ 15 → ad1 k ≠ ad1 15 := fun k hk hne => hB1.ne hk (by omega) hne
  have n38 : ∀ k, k < 41 → k ≠ 38 → ad1 k ≠ ad1 38 := fun k hk hne => hB1.ne hk (by omega) hne
  have e4 : (xb_i h1 (ad1 15) 4).toInt = D := by rw [ei']; exact d3
  have e10 : (xb_i h1 (ad1 15) 10).toInt = (T + P : Nat) := by rw [ei']; exact t1
  have ev : (xb_i h1 (ad1 15) 4 * 5).toInt = (5 * D : Nat) := by
    rw [z_mul, e4, show (5 : Int32).toInt = 5 from rfl]
    omega
  have ix : ∀ (v y : Int32) (j : Nat), v.toInt = (5 * D : Nat) → y.toInt = j → j < 5 → (v + y).toInt = (5 * D + j : Nat) ∧ (v + y).toNatClampNeg = 5 * D + j := by
    intro v y j hv9 hy hj
    have e1 : (v + y).toInt = (5 * D + j : Nat) := by rw [z_add, hv9, hy]; omega
    exact ⟨e1, by rw [z_cl, e1, Int.toNat_natCast]⟩
  unfold w_Machine_call_L154
  refine ⟨hB1.k 15 (by omega), fun v2 e2 => ?_⟩
  have ev2 : v2.toInt = (5 * D : Nat) := by rw [e2]; exact ev
  obtain ⟨f0, g0⟩ := ix v2 0 0 ev2 rfl (by omega)
  obtain ⟨f1, g1⟩ := ix v2 1 1 ev2 rfl (by omega)
  obtain ⟨f3, g3⟩ := ix v2 3 3 ev2 rfl (by omega)
  obtain ⟨f4, g4⟩ := ix v2 4 4 ev2 rfl (by omega)
  rw [g0, g1, g3, g4]
  refine ⟨ad1 38, hB1.r (15, 11, 38) (by decide), q1, hB1.k 38 (by omega), by rw [z_in, f0, S2]; omega, fun h7 e7 => ?_⟩
  have s7 : stp [38] [] own1 ad1 own1 ad1 h1 h7 := by rw [e7]; exact stp.Ic hB1
  refine ⟨ad1 38, s7.1.r (15, 11, 38) (by decide), s7.1.k 38 (by omega), by rw [z_in, f1, e7, xh_nI, S2]; omega, fun h11 e11 => ?_⟩
  have s11 : stp [38] [] own1 ad1 own1 ad1 h7 h11 := by rw [e11]; exact stp.Ic s7.1
  have s711 : stp [38] [] own1 ad1 own1 ad1 h1 h11 := (s7.tr s11).mono (by decide) (fun k hk => by simpa using hk)
  have hm11 := q5.st hB1 s711 (by decide) (fun x hx => by cases hx)
  have i11 : xb_i h11 (ad1 15) = xb_i h1 (ad1 15) := by rw [e11, xh_iI, if_neg (n38 15 (by omega) (by omega)), e7, xh_iI, if_neg (n38 15 (by omega) (by omega))]
  refine ⟨ad1 38, s11.1.r (15, 11, 38) (by decide), hm11.1.k, mo_typeOf hm11 (k := k) hx5 c2 (fun r15 e15 _ => md_parameters (i := t) hm11.1 hm11.2.1.1.1 (by rw [e15, c3, Int.toNat_natCast]) c4 (fun r17 e17 _ _ _ => ?_))⟩
  rw [c5] at e17
  have n11 : xb_n h11 = xb_n h1 := by rw [e11, xh_nI, e7, xh_nI]
  refine ⟨s11.1.k 38 (by omega), by rw [z_in, f3, n11, S2]; omega, fun h20 e20 => ?_⟩
  have s20 : stp [38] [] own1 ad1 own1 ad1 h11 h20 := by rw [e20]; exact stp.Ic s11.1
  have n20 : xb_n h20 = xb_n h1 := by rw [e20, xh_nI, n11]
  refine ⟨ad1 38, s20.1.r (15, 11, 38) (by decide), s20.1.k 38 (by omega), by rw [z_in, f4, n20, S2]; omega, fun h24 e24 h25 e25 h26 e26 => ?_⟩
  have s24 : stp [38] [] own1 ad1 own1 ad1 h20 h24 := by rw [e24]; exact stp.Ic s20.1
  have s25 : stp [15] [] own1 ad1 own1 ad1 h24 h25 := by rw [e25]; exact stp.Ic s24.1
  have s26 : stp [15] [] own1 ad1 own1 ad1 h25 h26 := by rw [e26]; exact stp.Ic s25.1
  have i20 : xb_i h20 (ad1 15) = xb_i h1 (ad1 15) := by rw [e20, xh_iI, if_neg (n38 15 (by omega) (by omega)), i11]
  have i24 : xb_i h24 (ad1 15) = xb_i h1 (ad1 15) := by rw [e24, xh_iI, if_neg (n38 15 (by omega) (by omega)), i20]
  have i25 : xb_i h25 (ad1 15) = va_up (xb_i h1 (ad1 15)) 10 (xb_i h1 (ad1 15) 10 + x7) := by rw [e25, xh_iI, if_pos rfl, i24]
  have i26 : xb_i h26 (ad1 15) = va_up (va_up (xb_i h1 (ad1 15)) 10 (xb_i h1 (ad1 15) 10 + x7)) 4 (xb_i h1 (ad1 15) 4 + 1) := by rw [e26, xh_iI, if_pos rfl, i25, xh_up (xb_i h1 (ad1 15)) 10 _ 4, if_neg (by omega)]
  have F26 : xb_i h26 (ad1 38) = va_up (va_up (va_up (va_up (xb_i h1 (ad1 38)) (5 * D + 0) (xb_i h1 (wia W i) 0)) (5 * D + 1) x5) (5 * D + 3) (xb_i h1 (ad1 15) 10 - r17)) (5 * D + 4) (xb_i h1 (ad1 15) 10 + x7) := by
    rw [e26, xh_iI, if_neg (n15 38 (by omega) (by omega)), e25, xh_iI, if_neg (n15 38 (by omega) (by omega)), e24, xh_iI, if_pos rfl, i20, e20, xh_iI, if_pos rfl, i11, e11, xh_iI, if_pos rfl, e7, xh_iI, if_pos rfl]
  have l26 : xb_l h26 = xb_l h1 := by rw [e26, xh_lI, e25, xh_lI, e24, xh_lI, e20, xh_lI, e11, xh_lI, e7, xh_lI]
  have n26 : xb_n h26 = xb_n h1 := by rw [e26, xh_nI, e25, xh_nI, e24, xh_nI, n20]
  have s126 : stp [15, 38] [] own1 ad1 own1 ad1 h1 h26 := ((((s711.tr s20).tr s24).tr s25).tr s26).mono (by decide) (fun k hk => by simpa using hk)
  have hU1 : wU ad1 h26 := by
    obtain ⟨m, m1, m2⟩ := hW1.2.2.2.2.1
    exact ⟨m, m1.fr (s126.cm hB1 (by decide) (fun x hx => by cases hx) (k := 27) (by omega) (by decide)).2 s126.2.2.2.1, m2⟩
  have hW26 : wI own1 ad1 h26 W σ := hW1.ca hB1 (s126.mono (by decide) (fun k hk => hk)) hU1
  have hS26 := hS1.st hB1 s126
  have E0 : (xb_i h26 (ad1 38) (5 * D)).toInt = i := by rw [F26, xh_up, if_neg (by omega), xh_up, if_neg (by omega), xh_up, if_neg (by omega), xh_up, if_pos (by omega)]; exact q3
  have E1 : (xb_i h26 (ad1 38) (5 * D + 1)).toInt = k := by rw [F26, xh_up, if_neg (by omega), xh_up, if_neg (by omega), xh_up, if_pos rfl]; exact hx5
  have E3 : (xb_i h26 (ad1 38) (5 * D + 3)).toInt = T := by
    rw [F26, xh_up, if_neg (by omega), xh_up, if_pos rfl, z_sub, e10, e17]
    omega
  have E4 : (xb_i h26 (ad1 38) (5 * D + 4)).toInt = (T + P + lcn : Nat) := by
    rw [F26, xh_up, if_pos rfl, z_add, e10, hx7]
    omega
  have EO : ∀ j, j < 5 * D → xb_i h26 (ad1 38) j = xb_i h1 (ad1 38) j := fun j hj => by rw [F26, xh_up, if_neg (by omega), xh_up, if_neg (by omega), xh_up, if_neg (by omega), xh_up, if_neg (by omega)]
  refine mc_enter (j := D) s26.1 hW26 hS26 ev2 hD E0 hi E3 E4 (fun h27 s27 j1 j2 j3 j4 j5 j6 j7 _ => ?_)
  have hm27 := q5.st hB1 (s126.tr s27) (by decide) (fun x hx => by simp at hx)
  refine ⟨_, hm27.1.row (k := 9) (by omega), hm27.1.krow (by omega), md_at (c := 5) hm27.1 (i := k - ni (wd W i) 0) (j := 0) (by omega) rfl hx6 rfl (by omega) h9 (fun r32 e32 _ h33 e33 => ?_)⟩
  rw [Nat.add_zero, b1] at e32
  have s33 : stp [15] [] own1 ad1 own1 ad1 h27 h33 := by rw [e33]; exact stp.Ic s27.1
  have s133 : stp [15, 38] [] own1 ad1 own1 ad1 h1 h33 := ((s126.tr s27).tr s33).mono (by decide) (fun k hk => by simpa using hk)
  have c27 : ∀ k, k < 41 → k ≠ 15 → xh_sm h26 h27 (ad1 k) := fun k hk hne => (s27.cm s126.1 (by decide) (fun x hx => by cases hx) hk (by simp; omega)).2
  have i33 : ∀ y, y ≠ 15 → xb_i h33 (ad1 15) y = xb_i h27 (ad1 15) y := fun y hy => by rw [e33, xh_iI, if_pos rfl, xh_up, if_neg hy]
  have r33 : xb_r h33 = xb_r h27 := by rw [e33, xh_rI]
  have F33 : xb_i h33 (ad1 38) = xb_i h26 (ad1 38) := by rw [e33, xh_iI, if_neg (n15 38 (by omega) (by omega)), (c27 38 (by omega) (by omega)).1]
  have l33 : xb_l h33 (ad1 37) = xb_l h1 (ad1 37) := by rw [e33, xh_lI, (c27 37 (by omega) (by omega)).2.1, l26]
  have n33 : ∀ y, y < 41 → xb_n h33 (ad1 y) = xb_n h1 (ad1 y) := fun y hy => (s133.2.2.2.1 _ (hB1.z y hy)).2
  have S133 : stp caC [] own ad own1 ad1 h h33 := (s1.tr s133).mono (by decide) (fun k hk => by simpa using hk)
  have hNd := q5.1.2.2.2.2
  unfold cfO at hQ
  rw [if_neg (by omega)] at hQ
  have c133 : ∀ k, k < 41 → k ≠ 15 → k ≠ 38 → xh_sm h1 h33 (ad1 k) := fun k hk h8 h9 => (s133.cm hB1 (by decide) (fun x hx => by cases hx) hk (by simp; omega)).2
  have c1 : ∀ k, k < 41 → k ≠ 15 → k ≠ 37 → k ≠ 38 → xh_sm h h1 (ad k) := fun k hk h7 h8 h9 => (s1.cm hB (by decide) (fun x hx => by cases hx) hk (by simp; omega)).2
  have l3315 : xb_l h33 (ad 15) = xb_l h (ad 15) := by rw [← a15, e33, xh_lI, j2, l26, a15, eil]
  have i337 : xb_i h33 (ad 15) 7 = xb_i h (ad 15) 7 := by rw [← a15, i33 7 (by omega), j1 7 (by omega) (by omega), i26, xh_up, if_neg (by omega), xh_up, if_neg (by omega), ei', a15]
  have a36 := A 36 (by decide)
  have a27 := A 27 (by decide)
  have a28 : ad1 28 = ad 28 := s1.2.1 28 (by decide)
  have i3336 : xb_i h33 (ad 36) = xb_i h (ad 36) := by rw [← a36, (c133 36 (by omega) (by omega) (by omega)).1, a36, (c1 36 (by omega) (by omega) (by omega) (by omega)).1]
  have hU33 : oU ad h ad1 h33 none := ⟨by rw [← a27, (c133 27 (by omega) (by omega) (by omega)).1, a27, (c1 27 (by omega) (by omega) (by omega) (by omega)).1], a28, by rw [← a28, (c133 28 (by omega) (by omega) (by omega)).2.1, a28, (c1 28 (by omega) (by omega) (by omega) (by omega)).2.1]⟩
  refine hQ h33 own1 ad1 bc bs ⟨S133, ?_, hS1.st hB1 s133, ⟨cP.new hc hD hi hft hb ?_ ?_ ?_ ?_ ⟨?_, ?_, ?_, ?_, ?_, ?_⟩ ?_ ?_ (fun j hj => by rw [l33]; exact hv j hj) (fun j hj1 hj2 => by rw [l33]; exact hz j hj1 hj2) (fun j hj y hy1 hy2 => ?_) (fun j hj => ?_) (fun h0 => ?_) ?_, fun j hj => ?_, l3315, i337, i3336⟩, hU33, ?_⟩
  · obtain ⟨m, m1, m2⟩ := hW1.2.2.2.2.1
    exact hW1.ca hB1 (s133.mono (by decide) (fun k hk => hk)) ⟨m, m1.fr (s133.cm hB1 (by decide) (fun x hx => by cases hx) (k := 27) (by omega) (by decide)).2 s133.2.2.2.1, m2⟩
  · rw [i33 3 (by omega), j1 3 (by omega) (by omega), i26, xh_up, if_neg (by omega), xh_up, if_neg (by omega), ei']
  · rw [i33 8 (by omega), j1 8 (by omega) (by omega), i26, xh_up, if_neg (by omega), xh_up, if_neg (by omega), ei']
  · rw [i33 4 (by omega), j1 4 (by omega) (by omega), i26, xh_up, if_pos rfl]
    exact z_inc e4 (by omega)
  · rw [i33 10 (by omega), j1 10 (by omega) (by omega), i26, xh_up, if_neg (by omega), xh_up, if_pos rfl, z_add, e10, hx7]
    omega
  · rw [e33, xh_iI, if_pos rfl, xh_up, if_pos rfl, e32]
    show _ = (p0 : Int)
    omega
  · rw [i33 16 (by omega)]; exact j3
  · rw [i33 17 (by omega)]; exact j4
  · rw [r33]; exact j5
  · rw [r33]; exact j6
  · rw [r33]; exact j7
  · rw [n33 37 (by omega)]; exact nV
  · rw [n33 37 (by omega)]; exact nV2
  · rw [F33, EO _ (by omega)]
    exact hfr' _ (fun _ => by omega)
  · rw [F33, EO _ (by omega)]
    exact hfr' _ (fun _ => by omega)
  · rw [F33, EO _ (by omega)]
    exact hbD' h0
  · rw [F33]
    exact ⟨E0, E1, E3, E4⟩
  · rw [l33]
    rw [show D + 1 - 1 = D by omega, xh_up, if_pos rfl] at hj
    have hj' : j < T + P + lcn + 0 := hj
    dsimp only
    by_cases h8 : T + P ≤ j
    · rw [if_pos ⟨h8, by omega⟩]
      exact hz j h8 (by omega)
    · rw [if_neg (by omega)]
      exact hv j (by omega)
  · unfold bgv
    rw [n33 37 (by omega)]
    exact (hg.sp (c := 0) (s := 0) (ad' := ad1) (h' := h33) (fun y hy => ⟨rfl, n33 y hy⟩)).2.2
end RNA
