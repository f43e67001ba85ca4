-- the class from outside: instantiate
/-- an instance is made: of what, how -/
def iN (own ad : Nat → Nat) (h : xb_H) (W : wD) (md : Nat) (d : mD) (q : Nat) (ms : Nat → Nat) (own' ad' : Nat → Nat) (h2 : xb_H) : Prop := stp lkC [] own ad own' ad' h h2 ∧ (∀ a, xb_k h a ≠ 0 → ms a = wms W a) ∧ tmO W d ∧ ∃ (vv own1 ad1 : Nat → Nat) (h1 : xb_H), lkM own ad h W d vv own1 ad1 h1 ∧ (∀ i, i < dn d 7 / 5 → rbO ad1 h1 d 7 (eS ad1 h1 d) i) ∧ (∀ i, i < dn d 11 / 5 → rbO ad1 h1 d 11 (bS ad1 h1 d) i) ∧ mkG own1 ad1 h1 W md d q ms own' ad' h2
/-- its start is begun, if there is one -/
def iSt (h : xb_H) (W' : wD) (i md : Nat) (ad : Nat → Nat) (h' : xb_H) : Prop := xb_l h' (ad 15) = xb_l h (ad 15) ∧ (∀ k, k ≠ 3 → k ≠ 8 → k ≠ 4 → k ≠ 10 → xb_i h' (ad 15) k = xb_i h (ad 15) k) ∧ (((xb_i h md 15).toInt = -1 ∧ xb_i h' (ad 15) = xb_i h (ad 15)) ∨ ∃ sf f : Nat, (xb_i h md 15).toInt = sf ∧ f = fnI h' W' i sf ∧ vf W' f ∧ (xb_i h' (ad 15) 3).toInt = 1 ∧ (xb_i h' (ad 15) 4).toInt = 0 ∧ (xb_i h' (ad 15) 8).toInt = f ∧ (xb_i h' (ad 15) 10).toInt = 0)
section HO5I
variable {own own' own2 ad ad' : Nat → Nat} {h h' h2 : xb_H} {W W' : wD} {σ ts ts' K rc rs bc bs bc' bs' : Nat}
theorem ho_instantiate {x1 : Int32} {Qr : Int32 → xb_H → Nat → Nat → Prop} {Qt : String → xb_H → Nat → Nat → Prop} (hI : cI own ad h W σ ts (K + 1)) (hg : cG ad h W ts (K + 1) rc rs bc bs) {mc : Nat} {M : Nat → mD} (hM : cMx own ad h mc M)
    (hQ1 : ∀ (i : Nat) (h' : xb_H) (own' ad' : Nat → Nat) (bc' bs' : Nat), x1.toInt = i → i < mc → xb_i h (ad 15) 3 = 0 → stp (0 :: lkC) [] own ad own' ad' h h' → (∀ j, j ≠ 9 → j ≠ 10 → xb_i h' (ad 0) j = xb_i h (ad 0) j) → (∀ j, j ≠ 7 → j ≠ 8 → xb_i h' (ad 14) j = xb_i h (ad 14) j) → lkN own ad h W (M i) (xb_i h' (ad 0) 9) (xb_i h' (ad 0) 10) → (∃ h8 : xb_H, lkR own ad own' ad' h h8 ∧ stp [0] [] own' ad' own' ad' h8 h') → cI own' ad' h' W σ ts K → cG ad' h' W ts K rc rs bc' bs' → Qr (-1) h' bc' bs')
    (hQ2 : ∀ (i md q : Nat) (ms : Nat → Nat) (r : Int32) (h2 h' : xb_H) (own' ad' : Nat → Nat) (bc' bs' : Nat), x1.toInt = i → i < mc → xb_i h (ad 15) 3 = 0 → xb_r h (ad 2) i = some md → r.toInt = wic W → iN own ad h W md (M i) q ms own' ad' h2 → stp [15, 0] [] own' ad' own' ad' h2 h' → (∀ j, j ≠ 9 → j ≠ 10 → xb_i h' (ad 0) j = xb_i h (ad 0) j) → (xb_i h' (ad 0) 9 = 0 ∧ xb_i h' (ad 0) 10 = 0) → iSt h (wN1 W md (M i) q ms) (wic W) md ad h' → cI own' ad' h' (wN1 W md (M i) q ms) σ ts K → cG ad' h' (wN1 W md (M i) q ms) ts K rc rs bc' bs' → Qr r h' bc' bs')
    (hQt1 : byd mc x1 → Qt "java/lang/IndexOutOfBoundsException" h (bc - 1) (bs - 6)) (hQt2 : ¬ byd mc x1 → xb_i h (ad 15) 3 ≠ 0 → Qt "java/lang/IllegalStateException" h (bc - 1) (bs - 6)) : w_H_instantiate σ (ad 0) x1 h bc bs Qr Qt := by
  obtain ⟨⟨hB, hW, hS, hr, hf⟩, ⟨t1, t2, t3, t4, t5⟩, -⟩ := id hI
  unfold w_H_instantiate
  refine ⟨hB.k 0 (by omega), ho_mod hB hM (fun ii md hii hii2 hmd hm _ => ho_ruw hB (fun h3 _ => ⟨ad 14, hB.r (0, 6, 14) (by decide), hB.k 14 (by omega), ?_⟩) (fun e => ho_ex hg (hQt2 (by unfold byd; omega) e))) (fun e => ho_ex hg (hQt1 e))⟩
  obtain ⟨d, hdd⟩ : ∃ d, d = M ii := ⟨_, rfl⟩
  rw [← hdd] at hm
  have him := hm.im
  have hl2 := hW.2.2.2.2.2.2.1.2.1
  have hgu : bg ad h (rc + xC ad h W ts (K + 1) + vP (xb_n h (ad 37)) / 8) (rs + xS ad h W ts (K + 1) + vP (xb_n h (ad 37))) bc bs := hg
  have hg1 : bg ad h ((rc + (tP (xb_n h (ad 1)) / 8 + nP (xb_n h (ad 31)) / 8 + 12 * ts + 245 * K + 6 * (24 - wic W)) + vP (xb_n h (ad 37)) / 8) + 6) ((rs + (tP (xb_n h (ad 1)) + nP (xb_n h (ad 31)) + 99 * ts + 3020 * K + 19000 * (24 - wic W)) + vP (xb_n h (ad 37)) + (19000 - (31 + (ni d 0 + ni d 3)))) + (31 + (ni d 0 + ni d 3))) bc bs := by
    refine hgu.le ?_ ?_
    · unfold xC
      omega
    · unfold xS
      omega
  obtain ⟨rest1, rest2⟩ := hr.rest h3
  refine wI_link hB hW hm hg1 (fun h8 own8 ad8 r9 bc8 bs8 q _ => ?_)
  obtain ⟨s8, i11, hq⟩ := q
  have a0 : ad8 0 = ad 0 := s8.2.2.2.2.2.2 0 (by decide)
  have a14 : ad8 14 = ad 14 := s8.2.2.2.2.2.2 14 (by decide)
  have a15 : ad8 15 = ad 15 := s8.2.2.2.2.2.2 15 (by decide)
  have r06 := s8.1.r (0, 6, 14) (by decide)
  rw [show ((0, 6, 14) : Nat × Nat × Nat).1 = 0 from rfl, a0] at r06
  refine ⟨ad8 14, r06, s8.1.k 14 (by omega), fun h12 e12 => ⟨ad8 14, ?_, ?_, fun h15 e15 => ?_⟩⟩
  · rw [e12, xh_rI]
    exact r06
  · rw [e12, xh_kI]
    exact s8.1.k 14 (by omega)
  have s12 : stp [0] [] own8 ad8 own8 ad8 h8 h12 := by rw [e12, ← a0]; exact stp.Ic s8.1
  have s15 : stp [0] [] own8 ad8 own8 ad8 h12 h15 := by rw [e15, ← a0]; exact stp.Ic s12.1
  have s815 : stp [0] [] own8 ad8 own8 ad8 h8 h15 := (s12.tr s15).mono (by decide) (fun k hk => by simpa using hk)
  have sA : stp (0 :: lkC) [] own ad own8 ad8 h h15 := (s8.tr s815).mono (by decide) (fun k hk => by simpa using hk)
  have c8 := (s8.cm hB lkC_lt (fun x hx => by cases hx) (k := 0) (by omega) (by decide)).2
  have i15 : ∀ j, j ≠ 9 → j ≠ 10 → xb_i h15 (ad 0) j = xb_i h (ad 0) j := fun j h9 h10 => by rw [e15, xh_iI, if_pos rfl, xh_up, if_neg h10, e12, xh_iI, if_pos rfl, xh_up, if_neg h9, c8.1]
  have n140 : ad 14 ≠ ad 0 := hB.ne (by omega) (by omega) (by omega)
  have i14 : xb_i h15 (ad 14) 11 = xb_i h (ad 14) 11 := by rw [e15, xh_iI, if_neg n140, e12, xh_iI, if_neg n140]; exact i11
  have cA : ∀ k, k < 41 → k ∉ (0 :: lkC) → ad8 k = ad k ∧ xh_sm h h15 (ad k) := fun k hk hn => sA.cm hB (by decide) (fun x hx => by cases hx) hk hn
  have hS15 : mS ad8 h15 := hS.st' hB sA (by decide)
  have hf15 : fI ad8 h15 := hf.st hB sA (by decide) (fun x hx => by cases hx) (by decide) (by decide)
  have rest15 : (xb_i h15 (ad8 15) 3).toInt = 0 ∧ (xb_i h15 (ad8 15) 4).toInt = 0 := by
    rw [a15, (cA 15 (by omega) (by decide)).2.1]
    exact ⟨rest1, rest2⟩
  have nn : ∀ k, k < 41 → k ∉ (0 :: lkC) → xb_n h15 (ad8 k) = xb_n h (ad k) := fun k hk hn => by rw [(cA k hk hn).1]; exact (sA.2.2.2.1 _ (hB.z k hk)).2
  -- the end, from the world as it is then
  have fin : ∀ (W' : wD) (h30 : xb_H), wI own8 ad8 h15 W' σ → stp [15] [] own8 ad8 own8 ad8 h15 h30 → rS ad8 h30 W' → bg ad8 h15 (rc + (tP (xb_n h (ad 1)) / 8 + nP (xb_n h (ad 31)) / 8 + 12 * ts + 245 * K + 6 * (25 - wic W')) + vP (xb_n h (ad 37)) / 8) (rs + (tP (xb_n h (ad 1)) + nP (xb_n h (ad 31)) + 99 * ts + 3020 * K + 19000 * (25 - wic W')) + vP (xb_n h (ad 37))) bc8 bs8 → cI own8 ad8 h30 W' σ ts K ∧ cG ad8 h30 W' ts K rc rs bc8 bs8 := by
    intro W' h30 w s30 r30 g30
    have sB : stp (15 :: 0 :: lkC) [] own ad own8 ad8 h h30 := (sA.tr s30).mono (by decide) (fun k hk => by simpa using hk)
    have c0 := (s30.cm s815.1 (by decide) (fun x hx => by cases hx) (k := 0) (by omega) (by decide)).2
    have c14 := (s30.cm s815.1 (by decide) (fun x hx => by cases hx) (k := 14) (by omega) (by decide)).2
    rw [a0] at c0
    rw [a14] at c14
    refine ⟨hI.dn.st sB (by decide) (by rw [c0.1, i15 1 (by omega) (by omega)]; exact t1) (Nat.le_refl _) (by rw [c0.1, i15 3 (by omega) (by omega)]) (by rw [c14.1, i14]) (w.st s815.1 s30 (by decide)) (hS15.st' s815.1 s30 (by decide)) r30 (hf15.st s815.1 s30 (by decide) (fun x hx => by cases hx) (by decide) (by decide)), ?_⟩
    unfold cG bgv xC xS
    have e30 : ∀ k, k < 41 → xb_n h30 (ad8 k) = xb_n h15 (ad8 k) := fun k hk => (s30.2.2.2.1 _ (s815.1.z k hk)).2
    rw [e30 1 (by omega), e30 31 (by omega), e30 37 (by omega), nn 1 (by omega) (by decide), nn 31 (by omega) (by decide), nn 37 (by omega) (by decide)]
    exact (g30.sp (c := 0) (s := 0) (ad' := ad8) (h' := h30) (fun k hk => ⟨rfl, e30 k hk⟩)).2.2
  unfold w_H_instantiate_L77
  have i09 : xb_i h15 (ad 0) 9 = xb_i h8 (ad 14) 7 := by rw [e15, xh_iI, if_pos rfl, xh_up, if_neg (by omega), e12, xh_iI, if_pos rfl, xh_up, if_pos rfl, a14]
  have i010 : xb_i h15 (ad 0) 10 = xb_i h8 (ad 14) 8 := by rw [e15, xh_iI, if_pos rfl, xh_up, if_pos rfl, e12, a14, xh_iI, if_neg n140]
  have i14a : xb_i h15 (ad 14) = xb_i h8 (ad 14) := by rw [e15, xh_iI, if_neg n140, e12, xh_iI, if_neg n140]
  rcases hq with ⟨q1, q2, q3, qR, qN⟩ | ⟨q1, q2, q3, qz, q, ms, q4, qm, vv, own1, ad1, h1, qM, qT, qE, qD, qG⟩
  · have w15 := q2.st s8.1 s815 (by decide)
    have g15 := q3.nn (h' := h15) (fun k hk => (s815.2.2.2.1 _ (s8.1.z k hk)).2)
    have er : r9 = -1 := by
      rw [z_eq, q1]
      rfl
    obtain ⟨u1, u2⟩ := fin W h15 w15 ((stp.rf s815.1).mono (by decide) (fun k hk => hk)) (.inl rest15) (g15.le (by omega) (by omega))
    refine ⟨fun _ => ?_, fun e => absurd er e⟩
    rw [er]
    exact hQ1 ii h15 own8 ad8 bc8 bs8 hii hii2 h3 sA i15 (fun j h7 h8 => by rw [i14a]; exact qR.2.2.2.2.2.1 j h7 h8) (by rw [i09, i010, ← hdd]; exact qN) ⟨h8, qR, s815⟩ u1 u2
  · have w15 := q4.st s8.1 s815 (by decide)
    have g15 := q3.nn (h' := h15) (fun k hk => (s815.2.2.2.1 _ (s8.1.z k hk)).2)
    have g15' : bg ad8 h15 (rc + (tP (xb_n h (ad 1)) / 8 + nP (xb_n h (ad 31)) / 8 + 12 * ts + 245 * K + 6 * (25 - wic (wN1 W md d q ms))) + vP (xb_n h (ad 37)) / 8) (rs + (tP (xb_n h (ad 1)) + nP (xb_n h (ad 31)) + 99 * ts + 3020 * K + 19000 * (25 - wic (wN1 W md d q ms))) + vP (xb_n h (ad 37))) bc8 bs8 := by
      have e9 : wic (wN1 W md d q ms) = wic W + 1 := rfl
      rw [e9]
      exact g15.le (by omega) (by omega)
    have hm15 : mo own8 h15 md d := hm.fr (fun a g1 g2 => sA.n1 hB (by decide) g1 (by simp) g2 (by omega)) sA.2.2.2.1 (fun a g1 g2 => by rw [sA.2.2.1 a g1]; exact g2)
    have hQ2' : ∀ h30 : xb_H, stp [15] [] own8 ad8 own8 ad8 h15 h30 → iSt h (wN1 W md d q ms) (wic W) md ad h30 → cI own8 ad8 h30 (wN1 W md d q ms) σ ts K ∧ cG ad8 h30 (wN1 W md d q ms) ts K rc rs bc8 bs8 → Qr r9 h30 bc8 bs8 := fun h30 s30 hs hc => by
      have c0 := (s30.cm s815.1 (by decide) (fun x hx => by cases hx) (k := 0) (by omega) (by decide)).2
      rw [a0] at c0
      rw [hdd] at hs hc qG qM qT qE qD
      exact hQ2 ii md q ms r9 h8 h30 own8 ad8 bc8 bs8 hii hii2 h3 hmd q1 ⟨s8, qm, qT, vv, own1, ad1, h1, qM, qE, qD, qG⟩ ((s815.tr s30).mono (by decide) (fun k hk => by simpa using hk)) (fun j h9 h10 => by rw [c0.1]; exact i15 j h9 h10) ⟨by rw [c0.1, i09]; exact qz.1, by rw [c0.1, i010]; exact qz.2⟩ hs hc.1 hc.2
    have c15 := (cA 15 (by omega) (by decide)).2
    have smd := sA.n1 hB (by decide) (a := md) (by have := hm.1.k; omega) (by simp) hm.2.2.1 (by omega)
    refine ⟨fun e => ?_, fun _ => ⟨hm15.1.k, fun e => hQ2' h15 ((stp.rf s815.1).mono (by decide) (fun k hk => hk)) ⟨c15.2.1, fun k _ _ _ _ => by rw [c15.1], .inl ⟨by rw [← smd.1, e]; rfl, c15.1⟩⟩ (fin _ h15 w15 ((stp.rf s815.1).mono (by decide) (fun k hk => hk)) (.inl rest15) g15'), fun e => ?_⟩⟩
    · rw [e, show (-1 : Int32).toInt = -1 from rfl] at q1
      omega
    · obtain ⟨l1, l2, l3, l4⟩ := w15.2.2.2.2.2.2.1
      have e9 : wic (wN1 W md d q ms) = wic W + 1 := rfl
      obtain ⟨l5, hiO⟩ := l4 (wic W) (by rw [e9]; omega)
      have r07 := s815.1.r (0, 7, 15) (by decide)
      rw [show ((0, 7, 15) : Nat × Nat × Nat).1 = 0 from rfl, a0] at r07
      have r06' := s815.1.r (0, 6, 14) (by decide)
      rw [show ((0, 6, 14) : Nat × Nat × Nat).1 = 0 from rfl, a0] at r06'
      have hwd : wd (wN1 W md d q ms) (wic W) = d := by
        show va_up (wMD W) (wic W) d (wic W) = d
        rw [xh_up, if_pos rfl]
      have hsf := hm15.2.1.2.2.2.2.2.2.2.2.2.2.1
      rcases hsf with h9 | ⟨sf, f1, f2, tt, f3, f4, f5⟩
      · exact absurd (z_eq.mpr h9) e
      · refine ⟨ad8 15, r07, ad8 14, r06', s815.1.k 14 (by omega), ad8 18, s815.1.r (14, 0, 18) (by decide), s815.1.k 18 (by omega), by rw [z_in, q1, l1]; omega, _, by rw [z_cl, q1, Int.toNat_natCast]; exact l5, hiO.1.1, iO_functionId hiO w15.1.2.1 f1 (by rw [hwd]; exact f2) (fun r28 f g1 g2 ⟨g3, g3f⟩ _ => ⟨s815.1.k 15 (by omega), mc_begin s815.1 (fun h30 s30 y1 y2 y3 y4 y5 y6 _ => hQ2' h30 s30 ⟨by rw [y6]; exact c15.2.1, fun k h3 h8 h4 h10 => by rw [← a15, y5 k h3 h8 h4 h10, a15, c15.1], .inr ⟨sf, f, by rw [← smd.1]; exact f1, ?_, g2, by rw [← a15]; exact y1, by rw [← a15]; exact y2, by rw [← a15, y3]; exact g1, by rw [← a15]; exact y4⟩⟩ (fin _ h30 w15 s30 (.inr (.inl ⟨f, y1, y2, by rw [y3]; exact g1, g2, ?_, ?_, ?_⟩)) g15'))⟩)⟩
        · rw [g3f]
          exact (fnI_sm hiO (fun a ha ho => s30.n1 s815.1 (by decide) ha (by simp) ho (by omega))).symm
        all_goals
          have eft : (fT (wN1 W md d q ms) f).1 = [] := by
            rw [g3, hwd]
            unfold ftm tyf
            rw [f3, Int.toNat_natCast, f4]
            rfl
          rw [eft]
        · exact y4
        · exact Nat.zero_le _
        · exact trivial
end HO5I
