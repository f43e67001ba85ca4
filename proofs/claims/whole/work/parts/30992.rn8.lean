-- a run: the host's own functions
/-- the host's own function is called: the outcome, what is put out -/
def hcO (n D : Nat) (gx : Nat → fG) (v : Nat → Int64) (T : Nat) (A : Int) : Oc × Option Int64 := if n = 4096 then (trD 10 D gx A, none) else (if D = 0 then .inr (.inl 0) else .inl (D, gx, v), some (v T))
section RN8
variable {own own' ad ad' : Nat → Nat} {h h' : xb_H} {W : wD} {σ D : Nat} {gx : Nat → fG}
theorem stp.vbg {C X : List Nat} {rc rs bc bs : Nat} (s : stp C X own ad own' ad' h h') (hB : cB own ad h) (h37 : 37 ∉ C) (hg : bg ad' h' (rc + vP (xb_n h (ad 37)) / 8) (rs + vP (xb_n h (ad 37))) bc bs) : bgv ad' h' rc rs bc bs := by
  unfold bgv
  rw [s.2.1 37 h37, (s.2.2.2.1 _ (hB.z 37 (by omega))).2]
  exact hg
theorem mc_callHost {f T n0 rc rs bc bs : Nat} {x : Int32} {A0 : Int} {Qr : xb_H → Nat → Nat → Prop} (hB : cB own ad h) (hW : wI own ad h W σ) (hS : mS ad h) (hc : cP ad h W D gx f T) (hn0 : (xb_i h (ad 27) 1).toInt = n0) (hA0 : 0 < D → (xb_i h (ad 15) 15).toInt = A0) (hf : 8192 ≤ f) (hx : 0 < D → x.toInt = gA (gx (D - 1))) (hg : bgv ad h rc rs bc bs)
    (hQ : ∀ (h' : xb_H) (own' ad' : Nat → Nat) (bc' bs' : Nat), caQ own ad h W σ rc rs own' ad' h' bc' bs' (hcO n0 D gx (xb_l h (ad 37)) T A0).1 (hcO n0 D gx (xb_l h (ad 37)) T A0).2 → Qr h' bc' bs') : w_Machine_callHost (ad 15) x h bc bs Qr := by
  obtain ⟨⟨d1, d2, d3, d4⟩, ⟨t1, t2, t3⟩, ⟨d5, d6⟩, h3, h4⟩ := id hc
  obtain ⟨S1, S2, S3, S4⟩ := id hS
  obtain ⟨un, u1, u2⟩ := hW.2.2.2.2.1
  have eT : fT W f = ([127 - ((f : Int) - 8192)], 64) := if_pos hf
  rw [eT] at t1 t2 t3 h3
  simp only [List.length_cons, List.length_nil] at t1 t2
  have k15 : xb_k h (ad 15) = 8 := hB.k 15 (by omega)
  have n15 : ∀ k, k < 41 → k ≠ 15 → ad k ≠ ad 15 := fun k hk hne => hB.ne hk (by omega) hne
  unfold w_Machine_callHost w_Machine_callHost_L69
  refine ⟨k15, ad 14, hB.r (15, 0, 14) (by decide), hB.k 14 (by omega), ad 27, hB.r (14, 6, 27) (by decide), hB.k 27 (by omega), fun e => fun h7 e7 => ?_, fun e => ca_fall (κ := 10) (A := A0) hB hW hS hc hg rfl hA0 (fun h' own' ad' bc' bs' hq => hQ h' own' ad' bc' bs' ?_) (fun h' h9 _ => h9)⟩
  rotate_left
  · rw [z_lt, u1.2.2.1, show (4096 : Int32).toInt = 4096 from rfl] at e
    have e9 := u1.2.2.1
    unfold hcO
    rw [if_pos (by omega)]
    exact hq
  rw [z_lt, u1.2.2.1, show (4096 : Int32).toInt = 4096 from rfl] at e
  have hnu : n0 = un := by have := u1.2.2.1; omega
  unfold hcO at hQ
  rw [if_neg (by omega)] at hQ
  have s7 : stp [15] [] own ad own ad h h7 := by rw [e7]; exact stp.Ic hB
  have i7 : xb_i h7 (ad 15) = va_up (xb_i h (ad 15)) 10 (xb_i h (ad 15) 10 - 1) := by rw [e7, xh_iI, if_pos rfl]
  have e10 : (xb_i h7 (ad 15) 10).toInt = T := by
    rw [i7, xh_up, if_pos rfl, z_sub, t1, show (1 : Int32).toInt = 1 from rfl]
    omega
  have cm7 : ∀ k, k < 41 → k ≠ 15 → xh_sm h h7 (ad k) := fun k hk hne => (s7.cm hB (by decide) (fun x hx => by cases hx) hk (by simp; omega)).2
  have n7 : xb_n h7 = xb_n h := by rw [e7, xh_nI]
  have r7 : xb_r h7 = xb_r h := by rw [e7, xh_rI]
  have g7 : bg ad h7 (rc + vP (xb_n h (ad 37)) / 8) (rs + vP (xb_n h (ad 37))) bc bs := (hg.sp (c := 0) (s := 0) (ad' := ad) (h' := h7) (fun k hk => ⟨rfl, by rw [n7]⟩)).2.2
  refine ⟨ad 14, s7.1.r (15, 0, 14) (by decide), s7.1.k 14 (by omega), ad 27, s7.1.r (14, 6, 27) (by decide), ad 37, s7.1.r (15, 9, 37) (by decide), s7.1.k 37 (by omega), by rw [z_in, e10, n7]; omega, s7.1.k 27 (by omega), wr_add (r := 27) (by decide) s7.1 (u1.fr (cm7 27 (by omega) (by omega)) s7.2.2.2.1) (by show _ < 4096; omega) g7 (fun h15 q bc' bs' w1 w2 w3 w4 w5 w6 w7 w8 _ h17 e17 => ?_)⟩
  have s15 := stp.row (r := 27) (by decide) w1 w5 w6 w7
  generalize rown own h7 q (27 + 3) = own15 at s15 w1
  generalize had : va_up ad (27 + 1) q = ad15 at s15 w1 w8
  have A : ∀ k, k ≠ 28 → ad15 k = ad k := fun k hk => by rw [← had, xh_up, if_neg hk]
  have a15 := A 15 (by omega)
  have a28 : ad15 28 = q := by rw [← had, xh_up, if_pos rfl]
  have s17 : stp [15] [] own15 ad15 own15 ad15 h15 h17 := by rw [e17, ← a15]; exact stp.Ic s15.1
  have sA : stp [15, 27, 28] [] own ad own15 ad15 h h17 := ((s7.tr s15).tr s17).mono (by decide) (fun k hk => by simpa using hk)
  have c15 : ∀ k, k < 41 → k ≠ 27 → k ≠ 28 → xh_sm h7 h15 (ad k) := fun k hk h1 h2 => (s15.cm s7.1 (by decide) (fun x hx => by cases hx) hk (by simp; omega)).2
  have i17 : xb_i h17 (ad 15) = va_up (va_up (xb_i h (ad 15)) 10 (xb_i h (ad 15) 10 - 1)) 15 x := by rw [e17, xh_iI, if_pos rfl, (c15 15 (by omega) (by omega) (by omega)).1, i7]
  have r17 : xb_r h17 (ad 15) = xb_r h (ad 15) := by rw [e17, xh_rI, (c15 15 (by omega) (by omega) (by omega)).2.2, r7]
  have cA : ∀ k, k < 41 → k ≠ 15 → k ≠ 27 → k ≠ 28 → xh_sm h h17 (ad k) := fun k hk h1 h2 h9 => (sA.cm hB (by decide) (fun x hx => by cases hx) hk (by simp; omega)).2
  have n17 : ∀ k, k < 41 → xb_n h17 (ad k) = xb_n h (ad k) := fun k hk => (sA.2.2.2.1 _ (hB.z k hk)).2
  have hU17 : wU ad15 h17 := by
    refine ⟨un + 1, ?_, by omega⟩
    rw [A 27 (by omega), a28]
    exact w2.fr (by rw [e17]; exact xh_smI _ _ _ (n15 27 (by omega) (by omega))) s17.2.2.2.1
  have sC : stp caC [] own ad own15 ad15 h h17 := sA.mono (by decide) (fun k hk => hk)
  have hW17 := hW.ca hB sC hU17
  have hS17 : mS ad15 h17 := ⟨by rw [A 36 (by omega), n17 36 (by omega)]; exact S1, by rw [A 38 (by omega), n17 38 (by omega)]; exact S2, by rw [A 37 (by omega), n17 37 (by omega)]; exact S3, by rw [A 37 (by omega), n17 37 (by omega)]; exact S4⟩
  have g17 : bg ad15 h17 (rc + vP (xb_n h (ad 37)) / 8) (rs + vP (xb_n h (ad 37))) bc' bs' := (w8.sp (c := 0) (s := 0) (ad' := ad15) (h' := h17) (fun k hk => ⟨rfl, (s17.2.2.2.1 _ (s15.1.z k hk)).2⟩)).2.2
  have e4 : (xb_i h17 (ad 15) 4).toInt = D := by rw [i17, xh_up, if_neg (by omega), xh_up, if_neg (by omega)]; exact d3
  have l7 : xb_l h7 = xb_l h := by rw [e7, xh_lI]
  have c10 : (xb_i h7 (ad 15) 10).toNatClampNeg = T := by rw [z_cl, e10, Int.toNat_natCast]
  have l1715 : xb_l h17 (ad 15) = xb_l h (ad 15) := by rw [e17, xh_lI, (c15 15 (by omega) (by omega) (by omega)).2.1, l7]
  have q15 : q ≠ ad 15 := fun e9 => by
    have := s15.1.o 28 (by omega)
    have h8 := s15.1.o 15 (by omega)
    rw [a28, e9] at this
    rw [a15] at h8
    omega
  have hU : ∀ h19 : xb_H, xb_i h19 (ad 27) = xb_i h17 (ad 27) → xb_l h19 q = xb_l h17 q → oU ad h ad15 h19 (some (xb_l h (ad 37) T)) := fun h19 j1 j2 => by
    have e27 : xb_i h17 (ad 27) = xb_i h15 (ad 27) := by rw [e17, xh_iI, if_neg (n15 27 (by omega) (by omega))]
    have e28 : xb_l h17 q = xb_l h15 q := by rw [e17, xh_lI]
    refine ⟨un, u1.2.2.1, by omega, by rw [j1, e27]; exact w2.2.2.1, fun j hj => ?_, ?_⟩
    · rw [a28, j2, e28, w3 j hj, l7]
    · rw [a28, j2, e28, w4, c10, l7]
  refine ⟨fun e0 => ?_, fun e0 => ?_⟩
  · have hD : 0 < D := by
      rw [z_eq, e4, show (0 : Int32).toInt = 0 from rfl] at e0
      omega
    obtain ⟨y1, y2, y3, y4, y5, y6, y7⟩ := d6 hD
    rw [if_neg (by omega)] at hQ
    refine hQ h17 own15 ad15 bc' bs' ⟨sC, hW17, hS17, ⟨⟨⟨hD, d1, ?_, ?_, ?_⟩, ⟨?_, ?_, ?_, ?_, ?_, ?_, ?_⟩, fun j hj => ?_, fun j hj => ?_, y2⟩, fun j _ => by rw [A 37 (by omega), (cA 37 (by omega) (by omega) (by omega) (by omega)).2.1], l1715, by rw [i17, xh_up, if_neg (by omega), xh_up, if_neg (by omega)], (cA 36 (by omega) (by omega) (by omega) (by omega)).1⟩, hU h17 rfl rfl, sA.vbg hB (by decide) g17⟩
    · rw [a15, i17, xh_up, if_neg (by omega), xh_up, if_neg (by omega)]; exact d2
    · rw [a15]; exact e4
    · rw [a15, i17, xh_up, if_neg (by omega), xh_up, if_neg (by omega)]; exact d4
    · rw [a15, i17, xh_up, if_neg (by omega), ← i7, e10, y1]
    · rw [a15, i17, xh_up, if_pos rfl]; exact hx hD
    · rw [a15, i17, xh_up, if_neg (by omega), xh_up, if_neg (by omega)]; exact y3
    · rw [a15, i17, xh_up, if_neg (by omega), xh_up, if_neg (by omega)]; exact y4
    · rw [a15, r17]; exact y5
    · rw [a15, r17]; exact y6
    · rw [a15, r17]; exact y7
    · rw [A 37 (by omega), A 38 (by omega), n17 37 (by omega), (cA 37 (by omega) (by omega) (by omega) (by omega)).2.1, (cA 38 (by omega) (by omega) (by omega) (by omega)).1]
      exact h3 j hj
    · rw [A 38 (by omega), (cA 38 (by omega) (by omega) (by omega) (by omega)).1]
      exact h4 j hj
  · have hD : D = 0 := by
      rw [z_eq, e4, show (0 : Int32).toInt = 0 from rfl] at e0
      omega
    rw [if_pos hD] at hQ
    have key := mc_finish (W := W) (x := 0) (Qr := fun (h19 : xb_H) => xb_ext h17 h19 → Qr h19 bc' bs') s17.1 (fun h19 s19 f1 _ => hQ h19 own15 ad15 bc' bs' ⟨(sA.tr s19).mono (by decide) (fun k hk => by simpa using hk), ?_, ?_, ?_, ?_, ?_⟩)
    · rw [a15] at key
      exact key
    · have sD : stp caC [] own ad own15 ad15 h h19 := (sA.tr s19).mono (by decide) (fun k hk => by simpa using hk)
      refine hW.ca hB sD ?_
      obtain ⟨m, m1, m2⟩ := hU17
      exact ⟨m, m1.fr (s19.cm s17.1 (by decide) (fun x hx => by cases hx) (k := 27) (by omega) (by decide)).2 s19.2.2.2.1, m2⟩
    · exact hS17.st s17.1 s19
    · exact oR.cg f1 a15 (A 36 (by omega)) l1715 (by rw [i17, xh_up, if_neg (by omega), xh_up, if_neg (by omega)]) (cA 36 (by omega) (by omega) (by omega) (by omega)).1
    · have c27 := (s19.cm s17.1 (by decide) (fun x hx => by cases hx) (k := 27) (by omega) (by decide)).2
      have c28 := (s19.cm s17.1 (by decide) (fun x hx => by cases hx) (k := 28) (by omega) (by decide)).2
      rw [A 27 (by omega)] at c27
      rw [a28] at c28
      exact hU h19 c27.1 c28.2.1
    · refine (sA.tr s19).vbg hB (by decide) ?_
      exact (g17.sp (c := 0) (s := 0) (ad' := ad15) (h' := h19) (fun k hk => ⟨rfl, (s19.2.2.2.1 _ (s17.1.z k hk)).2⟩)).2.2
end RN8
