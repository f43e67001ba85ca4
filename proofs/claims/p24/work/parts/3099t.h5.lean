-- the class from outside: load, instantiate, invoke
theorem mcnt_two {v : Nat → Int64} : ∀ m : Nat, mcnt v 0 m + mcnt v 3 m ≤ m
  | 0 => Nat.le_refl 0
  | m + 1 => by
    have ih := mcnt_two (v := v) m
    show mcnt v 0 m + (if (v (7 * m + 1)).toInt = 0 then 1 else 0) + (mcnt v 3 m + (if (v (7 * m + 1)).toInt = 3 then 1 else 0)) ≤ m + 1
    split
    · rw [if_neg (by omega)]
      omega
    · split <;> omega
section HO5
variable {own own' own2 ad ad' : Nat → Nat} {h h' h2 : xb_H} {W W' : wD} {σ ts ts' K rc rs bc bs bc' bs' : Nat}
theorem ho_load {Qr : Int32 → xb_H → Nat → Nat → Prop} {Qt : String → xb_H → Nat → Nat → Prop} (hI : cI own ad h W σ ts (K + 1)) (hg : cG ad h W ts (K + 1) rc rs bc bs) (hQ : ∀ (r : Int32) (h' : xb_H) (bc' bs' : Nat), cQ own h σ (ad 0) K rc rs h' bc' bs' → Qr r h' bc' bs') (hQt : ∀ (h' : xb_H) (bc' bs' : Nat), cQ own h σ (ad 0) K rc rs h' bc' bs' → Qt "java/lang/IllegalStateException" h' bc' bs') : w_H_load (ad 0) h bc bs Qr Qt := by
  obtain ⟨⟨hB, hW, hS, hr, hf⟩, ⟨t1, t2, t3, t4, t5⟩, ⟨m1, mc, m2, m3, m4⟩, ⟨r1, r2, r3⟩, ⟨na, a1, a2⟩, n1, n2, n3, n4⟩ := id hI
  -- the invariant, from what load leaves
  have fin : ∀ (h' : xb_H) (own' ad' : Nat → Nat) (bc' bs' : Nat), ldP own ad own' ad' h h' → cMd own' ad' h' → rc + (tP (xb_n h (ad 1)) / 8 + nP (xb_n h (ad 31)) / 8 + 245 * K + 6 * (25 - wic W)) + vP (xb_n h (ad 37)) / 8 + s9 (fun r => rP h ad r / 8) ≤ bc' → rs + (tP (xb_n h (ad 1)) + nP (xb_n h (ad 31)) + 3020 * K + 19000 * (25 - wic W)) + vP (xb_n h (ad 37)) + s9 (rP h ad) ≤ bs' → cQ own h σ (ad 0) K rc rs h' bc' bs' := by
    intro h' own' ad' bc' bs' hl hM g1 g2
    obtain ⟨l1, l2, l3, l4, l5, l6, l7⟩ := hl
    have cm : ∀ k, k < 41 → (14 ≤ k ∨ k = 1) → xh_sm h h' (ad k) := fun k hk h9 => l5 _ (hB.z k hk) (fun j hj hj1 => hB.ne hk (by omega) (by omega))
    have nn : ∀ k, k < 41 → k ≠ 6 → xb_n h' (ad' k) = xb_n h (ad k) := fun k hk h9 => by rw [l2 k h9]; exact (l4 _ (hB.z k hk)).2
    have hW' : wI own' ad' h' W σ := hW.fr hB (fun a ha h9 => l5 a ha (fun k hk hk1 e => by
      rw [e, hB.o k (by omega)] at h9
      unfold wtg at h9
      omega)) l4 l3 (fun k hk => l2 k (by omega))
    have hS' : mS ad' h' := by
      obtain ⟨S1, S2, S3, S4⟩ := hS
      unfold mS
      rw [nn 36 (by omega) (by omega), nn 37 (by omega) (by omega), nn 38 (by omega) (by omega)]
      exact ⟨S1, S2, S3, S4⟩
    have hr' : rS ad' h' W := hr.cg (l2 15 (by omega)) (l2 37 (by omega)) (l2 38 (by omega)) (cm 15 (by omega) (by omega)) (cm 37 (by omega) (by omega)) (cm 38 (by omega) (by omega)) (l4 _ (hB.z 37 (by omega))).2
    have hf' : fI ad' h' := ⟨by rw [l2 39 (by omega)]; exact hf.1.sm (cm 39 (by omega) (by omega)) l4, by rw [l2 40 (by omega)]; exact hf.2.sm (cm 40 (by omega) (by omega)) l4⟩
    have hRr : hR own own' h h' := ⟨l3, l4, fun a ha h6 => l5 a ha (fun k hk _ e => by
      rw [e, hB.o k (by omega)] at h6
      omega)⟩
    refine ⟨own', hRr, ad', W, 0, l2 0 (by omega), ⟨⟨l1, hW', hS', hr', hf'⟩, ⟨by rw [l2 0 (by omega)]; exact l6, by omega, by rw [nn 1 (by omega) (by omega)]; exact t3, by rw [nn 1 (by omega) (by omega)]; exact t4, fun j => by rw [l2 1 (by omega), (cm 1 (by omega) (by omega)).1]; exact t5 j⟩, hM, ⟨by rw [nn 4 (by omega) (by omega)]; exact r1, l7, fun k hk => by rw [nn (k + 7) (by omega) (by omega)]; exact r3 k hk⟩, ⟨na, ?_, a2⟩, ?_, ?_, by rw [nn 31 (by omega) (by omega)]; exact n3, by rw [nn 31 (by omega) (by omega)]; exact n4⟩, ?_⟩
    · rw [l2 16 (by omega), l2 17 (by omega)]
      exact a1.fr (cm 16 (by omega) (by omega)) l4
    · rw [l2 29 (by omega), (cm 29 (by omega) (by omega)).1]
      omega
    · rw [l2 14 (by omega), (cm 14 (by omega) (by omega)).1]
      omega
    · have e0 : ∀ r ∈ rwl, rP h' ad' r = rP h ad r := fun r hr => by
        have h8 : ∀ r ∈ rwl, r + 1 < 41 ∧ r + 1 ≠ 6 := by decide
        obtain ⟨x1, x2⟩ := h8 r hr
        unfold rP
        rw [nn _ x1 x2]
      have e1 : s9 (rP h' ad') = s9 (rP h ad) := by
        unfold s9
        rw [e0 _ (by decide), e0 _ (by decide), e0 _ (by decide), e0 _ (by decide), e0 _ (by decide), e0 _ (by decide), e0 _ (by decide), e0 _ (by decide), e0 _ (by decide)]
      have e2 : s9 (fun r => rP h' ad' r / 8) = s9 (fun r => rP h ad r / 8) := by
        unfold s9
        dsimp only
        rw [e0 _ (by decide), e0 _ (by decide), e0 _ (by decide), e0 _ (by decide), e0 _ (by decide), e0 _ (by decide), e0 _ (by decide), e0 _ (by decide), e0 _ (by decide)]
      unfold cG bgv bg xC xS
      rw [e1, e2, nn 1 (by omega) (by omega), nn 31 (by omega) (by omega), nn 37 (by omega) (by omega)]
      omega
  have hgu : bg ad h (rc + xC ad h W ts (K + 1) + vP (xb_n h (ad 37)) / 8) (rs + xS ad h W ts (K + 1) + vP (xb_n h (ad 37))) bc bs := hg
  obtain ⟨u1, u2⟩ := hgu
  unfold xC at u1
  unfold xS at u2
  have mofr : ∀ (h' : xb_H) (own' ad' : Nat → Nat), ldP own ad own' ad' h h' → ∀ (md : Nat) (d : mD), mo own h md d → mo own' h' md d := by
    intro h' own' ad' hl md d hm
    obtain ⟨l1, l2, l3, l4, l5, l6, l7⟩ := hl
    exact hm.fr (fun a g1 g2 => l5 a g1 (fun k hk _ => hB.n1 (by omega) g2)) l4 (fun a g1 g2 => by rw [l3 a g1]; exact g2)
  refine sp_load (rc := rc + (tP (xb_n h (ad 1)) / 8 + nP (xb_n h (ad 31)) / 8 + 245 * K + 6 * (25 - wic W)) + vP (xb_n h (ad 37)) / 8 + s9 (fun r => rP h ad r / 8)) (rs := rs + (tP (xb_n h (ad 1)) + nP (xb_n h (ad 31)) + 3020 * K + 19000 * (25 - wic W)) + vP (xb_n h (ad 37)) + s9 (rP h ad)) hB m2 m3 m1 t1 t2 t4 t5 r1 r2 r3 (by omega) (by omega) (fun h' own' ad' md d v bc' bs' hl j1 j2 j3 j4 j5 j6 j7 => hQ _ _ _ _ (fin h' own' ad' bc' bs' hl ?_ j6 j7)) (fun h' own' ad' bc' bs' hl j1 j2 j3 j4 => hQ _ _ _ _ (fin h' own' ad' bc' bs' hl ?_ j3 j4)) (fun _ => (ho_ex hI hg hQt).2.2)
  · refine ⟨by rw [hl.2.1 2 (by omega)]; rw [(hl.2.2.2.1 _ (hB.z 2 (by omega))).2]; exact m1, mc + 1, by rw [hl.2.1 0 (by omega)]; exact j4, by omega, fun i hi => ?_⟩
    rw [hl.2.1 2 (by omega), j3, xh_up]
    split
    · exact ⟨md, d, rfl, j2⟩
    · obtain ⟨md2, d2, y1, y2⟩ := m4 i (by omega)
      exact ⟨md2, d2, y1, mofr h' own' ad' hl md2 d2 y2⟩
  · refine ⟨by rw [hl.2.1 2 (by omega)]; rw [(hl.2.2.2.1 _ (hB.z 2 (by omega))).2]; exact m1, mc, by rw [hl.2.1 0 (by omega), j2]; exact m2, m3, fun i hi => ?_⟩
    obtain ⟨md2, d2, y1, y2⟩ := m4 i (by omega)
    exact ⟨md2, d2, by rw [hl.2.1 2 (by omega), j1]; exact y1, mofr h' own' ad' hl md2 d2 y2⟩
theorem bg.nn (hg : bg ad h rc rs bc bs) (e : ∀ k, k < 41 → xb_n h' (ad k) = xb_n h (ad k)) : bg ad h' rc rs bc bs := (hg.sp (c := 0) (s := 0) (ad' := ad) (h' := h') (fun k hk => ⟨rfl, e k hk⟩)).2.2
/-- the machine is at rest where it is not under way -/
theorem rS.rest (hr : rS ad h W) (h3 : xb_i h (ad 15) 3 = 0) : (xb_i h (ad 15) 3).toInt = 0 ∧ (xb_i h (ad 15) 4).toInt = 0 := by
  have e : (xb_i h (ad 15) 3).toInt = 0 := by rw [h3]; rfl
  rcases hr with h9 | ⟨f, h9, -⟩ | ⟨D, gx, h9, -⟩
  · exact h9
  · omega
  · omega
theorem ho_ruw {Qr : xb_H → Nat → Nat → Prop} {Qt : String → xb_H → Nat → Nat → Prop} (hB : cB own ad h) (hQ : xb_i h (ad 15) 3 = 0 → Qr h bc bs) (hT : 1 ≤ bc ∧ 6 ≤ bs ∧ Qt "java/lang/IllegalStateException" h (bc - 1) (bs - 6)) : w_H_refuseWhileUnderWay (ad 0) h bc bs Qr Qt := by
  unfold w_H_refuseWhileUnderWay
  exact ⟨hB.k 0 (by omega), ad 15, hB.r (0, 7, 15) (by decide), hB.k 15 (by omega), hQ, fun _ => hT⟩
theorem mo.im {md : Nat} {d : mD} (hm : mo own h md d) : 31 + (ni d 0 + ni d 3) ≤ 19000 := by
  obtain ⟨-, -, -, -, -, -, -, n8⟩ := hm.nn
  have h4 := hm.2.1.2.2.2.2.2.2.2.2.2.2.2.1 1 (by omega)
  have h5 := hm.1.2.2.2.2
  have h6 := mcnt_two (v := dvs d 1) (dn d 1 / 7)
  rw [n8 0 (by omega), n8 3 (by omega)]
  have : ((0 : Nat) : Int) = 0 := rfl
  have : ((3 : Nat) : Int) = 3 := rfl
  show 31 + (mcnt (dvs d 1) 0 (dn d 1 / 7) + mcnt (dvs d 1) 3 (dn d 1 / 7)) ≤ 19000
  omega
theorem ho_instantiate {x1 : Int32} {Qr : Int32 → xb_H → Nat → Nat → Prop} {Qt : String → xb_H → Nat → Nat → Prop} (hI : cI own ad h W σ ts (K + 1)) (hg : cG ad h W ts (K + 1) rc rs bc bs) (hQ : ∀ (r : Int32) (h' : xb_H) (bc' bs' : Nat), cQ own h σ (ad 0) K rc rs h' bc' bs' → Qr r h' bc' bs') (hQt : ∀ X : String, X = "java/lang/IndexOutOfBoundsException" ∨ X = "java/lang/IllegalStateException" → ∀ (h' : xb_H) (bc' bs' : Nat), cQ own h σ (ad 0) K rc rs h' bc' bs' → Qt X h' bc' bs') : w_H_instantiate σ (ad 0) x1 h bc bs Qr Qt := by
  obtain ⟨⟨hB, hW, hS, hr, hf⟩, ⟨t1, t2, t3, t4, t5⟩, -⟩ := id hI
  unfold w_H_instantiate
  refine ⟨hB.k 0 (by omega), ho_mod hB hI.2.2.1 (fun md d hm _ => ho_ruw hB (fun h3 _ => ⟨ad 14, hB.r (0, 6, 14) (by decide), hB.k 14 (by omega), ?_⟩) (ho_ex hI hg (hQt _ (.inr rfl)))) (ho_ex hI hg (hQt _ (.inl rfl)))⟩
  have him := hm.im
  have hl2 := hW.2.2.2.2.2.2.1.2.1
  have hgu : bg ad h (rc + xC ad h W ts (K + 1) + vP (xb_n h (ad 37)) / 8) (rs + xS ad h W ts (K + 1) + vP (xb_n h (ad 37))) bc bs := hg
  have hg1 : bg ad h ((rc + (tP (xb_n h (ad 1)) / 8 + nP (xb_n h (ad 31)) / 8 + 12 * ts + 245 * K + 6 * (24 - wic W)) + vP (xb_n h (ad 37)) / 8) + 6) ((rs + (tP (xb_n h (ad 1)) + nP (xb_n h (ad 31)) + 99 * ts + 3020 * K + 19000 * (24 - wic W)) + vP (xb_n h (ad 37)) + (19000 - (31 + (ni d 0 + ni d 3)))) + (31 + (ni d 0 + ni d 3))) bc bs := by
    refine hgu.le ?_ ?_
    · unfold xC
      omega
    · unfold xS
      omega
  obtain ⟨rest1, rest2⟩ := hr.rest h3
  refine wI_link hB hW hm hg1 (fun h8 own8 ad8 r9 bc8 bs8 q _ => ?_)
  obtain ⟨s8, i11, hq⟩ := q
  have a0 : ad8 0 = ad 0 := s8.2.2.2.2.2.2 0 (by decide)
  have a14 : ad8 14 = ad 14 := s8.2.2.2.2.2.2 14 (by decide)
  have a15 : ad8 15 = ad 15 := s8.2.2.2.2.2.2 15 (by decide)
  have r06 := s8.1.r (0, 6, 14) (by decide)
  rw [show ((0, 6, 14) : Nat × Nat × Nat).1 = 0 from rfl, a0] at r06
  refine ⟨ad8 14, r06, s8.1.k 14 (by omega), fun h12 e12 => ⟨ad8 14, ?_, ?_, fun h15 e15 => ?_⟩⟩
  · rw [e12, xh_rI]
    exact r06
  · rw [e12, xh_kI]
    exact s8.1.k 14 (by omega)
  have s12 : stp [0] [] own8 ad8 own8 ad8 h8 h12 := by rw [e12, ← a0]; exact stp.Ic s8.1
  have s15 : stp [0] [] own8 ad8 own8 ad8 h12 h15 := by rw [e15, ← a0]; exact stp.Ic s12.1
  have s815 : stp [0] [] own8 ad8 own8 ad8 h8 h15 := (s12.tr s15).mono (by decide) (fun k hk => by simpa using hk)
  have sA : stp (0 :: lkC) [] own ad own8 ad8 h h15 := (s8.tr s815).mono (by decide) (fun k hk => by simpa using hk)
  have c8 := (s8.cm hB lkC_lt (fun x hx => by cases hx) (k := 0) (by omega) (by decide)).2
  have i15 : ∀ j, j ≠ 9 → j ≠ 10 → xb_i h15 (ad 0) j = xb_i h (ad 0) j := fun j h9 h10 => by rw [e15, xh_iI, if_pos rfl, xh_up, if_neg h10, e12, xh_iI, if_pos rfl, xh_up, if_neg h9, c8.1]
  have n140 : ad 14 ≠ ad 0 := hB.ne (by omega) (by omega) (by omega)
  have i14 : xb_i h15 (ad 14) 11 = xb_i h (ad 14) 11 := by rw [e15, xh_iI, if_neg n140, e12, xh_iI, if_neg n140]; exact i11
  have cA : ∀ k, k < 41 → k ∉ (0 :: lkC) → ad8 k = ad k ∧ xh_sm h h15 (ad k) := fun k hk hn => sA.cm hB (by decide) (fun x hx => by cases hx) hk hn
  have hS15 : mS ad8 h15 := hS.st' hB sA (by decide)
  have hf15 : fI ad8 h15 := hf.st hB sA (by decide) (fun x hx => by cases hx) (by decide) (by decide)
  have rest15 : (xb_i h15 (ad8 15) 3).toInt = 0 ∧ (xb_i h15 (ad8 15) 4).toInt = 0 := by
    rw [a15, (cA 15 (by omega) (by decide)).2.1]
    exact ⟨rest1, rest2⟩
  have nn : ∀ k, k < 41 → k ∉ (0 :: lkC) → xb_n h15 (ad8 k) = xb_n h (ad k) := fun k hk hn => by rw [(cA k hk hn).1]; exact (sA.2.2.2.1 _ (hB.z k hk)).2
  -- the end, from the world as it is then
  have fin : ∀ (W' : wD) (h30 : xb_H), wI own8 ad8 h15 W' σ → stp [15] [] own8 ad8 own8 ad8 h15 h30 → rS ad8 h30 W' → bg ad8 h15 (rc + (tP (xb_n h (ad 1)) / 8 + nP (xb_n h (ad 31)) / 8 + 12 * ts + 245 * K + 6 * (25 - wic W')) + vP (xb_n h (ad 37)) / 8) (rs + (tP (xb_n h (ad 1)) + nP (xb_n h (ad 31)) + 99 * ts + 3020 * K + 19000 * (25 - wic W')) + vP (xb_n h (ad 37))) bc8 bs8 → cQ own h σ (ad 0) K rc rs h30 bc8 bs8 := by
    intro W' h30 w s30 r30 g30
    have sB : stp (15 :: 0 :: lkC) [] own ad own8 ad8 h h30 := (sA.tr s30).mono (by decide) (fun k hk => by simpa using hk)
    have c0 := (s30.cm s815.1 (by decide) (fun x hx => by cases hx) (k := 0) (by omega) (by decide)).2
    have c14 := (s30.cm s815.1 (by decide) (fun x hx => by cases hx) (k := 14) (by omega) (by decide)).2
    rw [a0] at c0
    rw [a14] at c14
    refine ⟨own8, sB.hR hB (by decide), ad8, W', ts, a0, hI.dn.st sB (by decide) (by rw [c0.1, i15 1 (by omega) (by omega)]; exact t1) (Nat.le_refl _) (by rw [c0.1, i15 3 (by omega) (by omega)]) (by rw [c14.1, i14]) (w.st s815.1 s30 (by decide)) (hS15.st' s815.1 s30 (by decide)) r30 (hf15.st s815.1 s30 (by decide) (fun x hx => by cases hx) (by decide) (by decide)), ?_⟩
    unfold cG bgv xC xS
    have e30 : ∀ k, k < 41 → xb_n h30 (ad8 k) = xb_n h15 (ad8 k) := fun k hk => (s30.2.2.2.1 _ (s815.1.z k hk)).2
    rw [e30 1 (by omega), e30 31 (by omega), e30 37 (by omega), nn 1 (by omega) (by decide), nn 31 (by omega) (by decide), nn 37 (by omega) (by decide)]
    exact (g30.sp (c := 0) (s := 0) (ad' := ad8) (h' := h30) (fun k hk => ⟨rfl, e30 k hk⟩)).2.2
  unfold w_H_instantiate_L77
  rcases hq with ⟨q1, q2, q3⟩ | ⟨q1, q2, q3, q, ms, q4, -⟩
  · have w15 := q2.st s8.1 s815 (by decide)
    have g15 := q3.nn (h' := h15) (fun k hk => (s815.2.2.2.1 _ (s8.1.z k hk)).2)
    have er : r9 = -1 := by
      rw [z_eq, q1]
      rfl
    refine ⟨fun _ => hQ _ _ _ _ (fin W h15 w15 ((stp.rf s815.1).mono (by decide) (fun k hk => hk)) (.inl rest15) (g15.le ?_ ?_)), fun e => absurd er e⟩
    · omega
    · omega
  · have w15 := q4.st s8.1 s815 (by decide)
    have g15 := q3.nn (h' := h15) (fun k hk => (s815.2.2.2.1 _ (s8.1.z k hk)).2)
    have g15' : bg ad8 h15 (rc + (tP (xb_n h (ad 1)) / 8 + nP (xb_n h (ad 31)) / 8 + 12 * ts + 245 * K + 6 * (25 - wic (wN1 W md d q ms))) + vP (xb_n h (ad 37)) / 8) (rs + (tP (xb_n h (ad 1)) + nP (xb_n h (ad 31)) + 99 * ts + 3020 * K + 19000 * (25 - wic (wN1 W md d q ms))) + vP (xb_n h (ad 37))) bc8 bs8 := by
      have e9 : wic (wN1 W md d q ms) = wic W + 1 := rfl
      rw [e9]
      exact g15.le (by omega) (by omega)
    have hm15 : mo own8 h15 md d := hm.fr (fun a g1 g2 => sA.n1 hB (by decide) g1 (by simp) g2 (by omega)) sA.2.2.2.1 (fun a g1 g2 => by rw [sA.2.2.1 a g1]; exact g2)
    refine ⟨fun e => ?_, fun _ => ⟨hm15.1.k, fun _ => hQ _ _ _ _ (fin _ h15 w15 ((stp.rf s815.1).mono (by decide) (fun k hk => hk)) (.inl rest15) g15'), fun e => ?_⟩⟩
    · rw [e, show (-1 : Int32).toInt = -1 from rfl] at q1
      omega
    · obtain ⟨l1, l2, l3, l4⟩ := w15.2.2.2.2.2.2.1
      have e9 : wic (wN1 W md d q ms) = wic W + 1 := rfl
      obtain ⟨l5, hiO⟩ := l4 (wic W) (by rw [e9]; omega)
      have r07 := s815.1.r (0, 7, 15) (by decide)
      rw [show ((0, 7, 15) : Nat × Nat × Nat).1 = 0 from rfl, a0] at r07
      have r06' := s815.1.r (0, 6, 14) (by decide)
      rw [show ((0, 6, 14) : Nat × Nat × Nat).1 = 0 from rfl, a0] at r06'
      have hwd : wd (wN1 W md d q ms) (wic W) = d := by
        show va_up (wMD W) (wic W) d (wic W) = d
        rw [xh_up, if_pos rfl]
      have hsf := hm15.2.1.2.2.2.2.2.2.2.2.2.2.1
      rcases hsf with h9 | ⟨sf, f1, f2, tt, f3, f4, f5⟩
      · exact absurd (z_eq.mpr h9) e
      · refine ⟨ad8 15, r07, ad8 14, r06', s815.1.k 14 (by omega), ad8 18, s815.1.r (14, 0, 18) (by decide), s815.1.k 18 (by omega), by rw [z_in, q1, l1]; omega, _, by rw [z_cl, q1, Int.toNat_natCast]; exact l5, hiO.1.1, iO_functionId hiO w15.1.2.1 f1 (by rw [hwd]; exact f2) (fun r28 f g1 g2 g3 _ => ⟨s815.1.k 15 (by omega), mc_begin s815.1 (fun h30 s30 y1 y2 y3 y4 _ => hQ _ _ _ _ (fin _ h30 w15 s30 (.inr (.inl ⟨f, y1, y2, by rw [y3]; exact g1, g2, ?_, ?_, ?_⟩)) g15'))⟩)⟩
        all_goals
          have eft : (fT (wN1 W md d q ms) f).1 = [] := by
            rw [g3, hwd]
            unfold ftm tyf
            rw [f3, Int.toNat_natCast, f4]
            rfl
          rw [eft]
        · exact y4
        · exact Nat.zero_le _
        · exact trivial
end HO5
