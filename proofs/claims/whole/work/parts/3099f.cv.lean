-- a run: one kind of number becomes another
theorem sg_a : ∀ o, o < 192 → (168 ≤ o ∧ o ≤ 171 → sgR o = 127) := by decide +kernel
theorem sg_b : ∀ o, o < 192 → (172 ≤ o ∧ o ≤ 177 → sgR o = 126) := by decide +kernel
theorem sg_c : ∀ o, o < 192 → (178 ≤ o ∧ o ≤ 182 → sgR o = 125) := by decide +kernel
theorem sg_d : ∀ o, o < 192 → (183 ≤ o ∧ o ≤ 187 → sgR o = 124) := by decide +kernel
section NU4
variable {own own' ad ad' : Nat → Nat} {h h' h1 : xb_H} {W : wD} {σ D : Nat} {gx : Nat → fG} {t P lcn p0 E g : Nat} {lo ν0 : Nat → Int32} {G : ctG}
theorem mc_truncate {F o w p b a : Nat} {τ0 τ τ' : Int} {v : Int64} {x4 x5 : Int32} {c : List Int} {s : Prop} [Decidable s] {Qr : xb_H → Prop} (hB : cB own ad h) (hW : wI own ad h W σ) (hS : mS ad h) (hm : fm h F τ0) (hpb : fpb τ0 p b) (hr : rX ad h W D gx t P lcn p0 E lo ν0 g G) (hn : gC (gx (D - 1)) = τ' :: c) (hτ : x4 = 32 ∨ τ = 126) (hv : v.toBitVec.toNat = a) (wa : fW p b a) (hw : x4.toInt = w) (w6 : w = 32 ∨ w = 64) (hs : x5 ≠ 0 ↔ s) (hT : nmt o a 0 = cutT p b w a s) (hV : nmv o a 0 = fcw p b w a) (hR : nmr o = w) (hQ : ∀ h' : xb_H, nX own ad h W D gx t P lcn p0 E lo ν0 g G (nmt o a 0) (nmI o a 0) (τ :: c) h' → Qr h') : w_Machine_truncate (ad 15) F v x4 x5 h Qr := by
  have k15 : xb_k h (ad 15) = 8 := hB.k 15 (by omega)
  have k37 : xb_k h (ad 37) = 103 := hB.k 37 (by omega)
  have r9 : xb_r h (ad 15) 9 = some (ad 37) := hB.r (15, 9, 37) (by decide)
  obtain ⟨p1, p2, p3, p4⟩ := hr.tp1 hS hn
  obtain ⟨ct1, ct2, ct3⟩ := cutT_c (p := p) (b := b) (w := w) (a := a) (s := s)
  have L45 : nmt o a 0 = 0 → ∀ y : Int64, (y.toBitVec.toNat : Int) = (if a < fS p b then (fwp p b a : Int) else -(fwp p b a : Int)) % 18446744073709551616 → w_Machine_truncate_L45 Qr (ad 15) x4 y h := by
    intro hz y hy
    rw [hz] at hQ
    have yl : y.toBitVec.toNat < 18446744073709551616 := y.toBitVec.isLt
    unfold w_Machine_truncate_L45 w_Machine_truncate_L75
    rw [z_eq, hw, show (32 : Int32).toInt = 32 from rfl]
    have fv : fcw p b w a = ((if a < fS p b then (fwp p b a : Int) else -(fwp p b a : Int)) % (2 ^ w : Nat)).toNat := rfl
    generalize (if a < fS p b then (fwp p b a : Int) else -(fwp p b a : Int)) = zz at hy fv
    refine ⟨k15, ad 37, r9, fun e => ⟨k37, p1, fun h3 e3 => ?_⟩, fun e => ⟨k37, p1, fun h3 e3 => ?_⟩⟩
    · have w64 : w = 64 := by omega
      have e9 : y = nmI o a 0 := by
        refine nmI_e ?_ (fun h8 => by omega)
        rw [hV, fv, w64, show ((2 ^ 64 : Nat) : Int) = 18446744073709551616 from rfl, ← hy]
        rfl
      rw [e3]
      rw [← e9] at hQ
      refine hQ _ (hr.n1 hB hn p3 ?_)
      rcases hτ with h9 | h9
      · rw [h9, show (32 : Int32).toInt = 32 from rfl] at hw
        omega
      · exact vr_no (by omega) (by omega)
    · have w32 : w = 32 := by omega
      have e9 : y &&& 4294967295 = nmI o a 0 := by
        have f0 : fcw p b w a = y.toBitVec.toNat % 2 ^ 32 := by
          rw [fv, w32, show ((2 ^ 32 : Nat) : Int) = 4294967296 from rfl]
          show _ = y.toBitVec.toNat % 4294967296
          omega
        refine nmI_e ?_ (fun _ => ?_)
        · rw [hV, f0, Z_and_mod _ 32 rfl]
        · rw [hV, f0]
          exact Nat.mod_lt _ (by decide)
      rw [e3]
      rw [← e9] at hQ
      exact hQ _ (hr.n1 hB hn p3 vr_low)
  unfold w_Machine_truncate
  refine ⟨hm.1, ex_trapOfWhole (w := w) hm hpb hv wa hw w6 (fun h9 => ?_) (fun h9 h8 => ?_) (fun h9 h8 h7 => ?_)⟩
  · have k5 : nmt o a 0 = 5 := by rw [hT]; exact ct1 h9
    exact fun _ => ⟨fun e => absurd e (by decide), fun _ => ⟨k15, hr.nf hB hW hS (κ := nmt o a 0) (by rw [k5]; rfl) (by rw [k5]; decide) (fun h' hn' _ => hQ h' hn')⟩⟩
  · have k4 : nmt o a 0 = 4 := by rw [hT]; exact ct3 h9 (fun h6 => h8 ((fok_s hs).mpr h6))
    exact fun _ => ⟨fun e => absurd e (by decide), fun _ => ⟨k15, hr.nf hB hW hS (κ := nmt o a 0) (by rw [k4]; rfl) (by rw [k4]; decide) (fun h' hn' _ => hQ h' hn')⟩⟩
  · have k0 : nmt o a 0 = 0 := by rw [hT]; exact ct2 h9 ((fok_s hs).mp h8)
    have fl := fwp_lt hpb h7
    refine fun _ => ⟨fun _ => ex_isNegative hm hpb hv wa (fun r6 hr6 _ => ⟨fun e6 => ex_wholePart hm hpb hv h7 (fun r9 hr9 _ => L45 k0 r9 ?_), fun e6 => ex_wholePart hm hpb hv h7 (fun r9 hr9 _ => L45 k0 (-r9) ?_)⟩), fun e => absurd rfl e⟩
    · rw [if_pos (hr6.mp e6), hr9]
      omega
    · rw [if_neg (fun h6 => e6 (hr6.mpr h6))]
      have g1 := Z_nat r9
      have g2 := Z_nat (-r9)
      have g3 := Z_rg r9
      rw [show -r9 = 0 - r9 from (Int64.zero_sub r9).symm, Z_sub, show (0 : Int64).toInt = 0 from rfl] at g2
      rw [show -r9 = 0 - r9 from (Int64.zero_sub r9).symm]
      rw [hr9] at g1
      omega
theorem mc_converted {x1 : Int32} {o a : Nat} {v : Int64} {Qr : Int64 → xb_H → Prop} (hB : cB own ad h) (hf : fI ad h) (hx : x1.toInt = o) (h1 : 167 ≤ o) (h2 : o ≤ 191) (h3 : ¬ (168 ≤ o ∧ o ≤ 171)) (h4 : ¬ (174 ≤ o ∧ o ≤ 177)) (hv : vr (sgA o) v) (ha : v.toBitVec.toNat = a) (hQ : ∀ r : Int64, r = nmI o a 0 → vr (sgR o) r → Qr r h) : w_Machine_converted (ad 15) x1 v h Qr := by
  have k15 : xb_k h (ad 15) = 8 := hB.k 15 (by omega)
  have q1 : xb_r h (ad 15) 1 = some (ad 39) := hB.r (15, 1, 39) (by decide)
  have q2 : xb_r h (ad 15) 2 = some (ad 40) := hB.r (15, 2, 40) (by decide)
  have b24 : fpb 125 24 127 := .inl ⟨rfl, rfl, rfl⟩
  have b53 : fpb 124 53 1023 := .inr ⟨rfl, rfl, rfl⟩
  have n : ∀ (k : Int32) (m : Nat), k.toInt = m → x1 = k → o = m := fun k m hk e => by rw [e, hk] at hx; omega
  have b5 : (178 ≤ o ∧ o ≤ 182) → ∀ (r : Int64) (z : Nat), fW 24 127 z → nmv o a 0 = z → r.toBitVec.toNat = z → Qr r h := fun h9 r z hz hn hr => hQ r (nmI_e (by rw [hn, hr]) (fun _ => by rw [hn]; exact fW_24.mp hz)) (by rw [sg_c o (by omega) h9]; exact fW_vr b24 (by rw [hr]; exact hz))
  have b4 : (183 ≤ o ∧ o ≤ 187) → ∀ (r : Int64) (z : Nat), nmv o a 0 = z → r.toBitVec.toNat = z → Qr r h := fun h9 r z hn hr => hQ r (nmI_e (by rw [hn, hr]) (fun h8 => by
    have : ∀ o, o < 192 → (183 ≤ o ∧ o ≤ 187 → nmr o ≠ 32) := by decide +kernel
    exact absurd h8 (this o (by omega) h9))) (by rw [sg_d o (by omega) h9]; exact vr_no (by omega) (by omega))
  have va32 : sgA o = 127 → a < 4294967296 := fun h9 => by
    rw [← ha]
    exact vr_w hv (.inl h9)
  have ow1 : ∀ (p b : Nat) (x : Int64) (u : Int), x.toInt = u → (if (1 : Int32) = 0 then fow p b False x.toBitVec.toNat else fow p b (x.toInt < 0) x.toInt.natAbs) = fow p b (u < 0) u.natAbs := fun p b x u hu => by
    rw [if_neg (by decide), hu]
  unfold w_Machine_converted w_Machine_converted_L200 w_Machine_converted_L167 w_Machine_converted_L122
  refine ⟨fun e => ?_, fun e => ?_, fun e => ?_, fun e => ?_, fun e => ?_, fun e => ?_, fun e => ?_, fun e => ?_, fun e => ?_, fun e => ?_, fun e => ?_, fun e => ?_, fun e => ?_, fun e => ?_, fun e => ?_, fun e => ?_, fun e => ?_, fun e => ?_, fun e => ?_, fun e => ?_, fun e => ?_, fun z1 z2 z3 z4 z5 z6 z7 z8 z9 z10 z11 z12 z13 z14 z15 z16 z17 z18 z19 z20 z21 => ?_⟩
  · have := n _ 167 rfl e
    subst this
    have nv : nmv 167 a 0 = a % 2 ^ 32 := by simp [nmv]
    exact hQ _ (nmI_e (by rw [nv, Z_and_mod _ 32 rfl, ha]) (fun _ => by rw [nv]; exact Nat.mod_lt _ (by decide))) vr_low
  · have := n _ 168 rfl e
    omega
  · have := n _ 169 rfl e
    omega
  · have := n _ 170 rfl e
    omega
  · have := n _ 171 rfl e
    omega
  · have := n _ 172 rfl e
    subst this
    have w := va32 rfl
    have nv : nmv 172 a 0 = (sgn 32 a % (2 ^ 64 : Nat)).toNat := by simp [nmv]
    refine hQ _ (nmI_e ?_ (fun h8 => absurd h8 (by decide))) (by rw [sg_b 172 (by omega) (by omega)]; exact vr_no (by omega) (by omega))
    rw [nv, (sx32 ha w).2.2]
    show _ = (sgn 32 a % 18446744073709551616).toNat
    unfold sgn
    repeat' split
    all_goals omega
  · have := n _ 173 rfl e
    subst this
    have nv : nmv 173 a 0 = a := by simp [nmv]
    exact hQ _ (nmI_e (by rw [nv, ha]) (fun h8 => absurd h8 (by decide))) (by rw [sg_b 173 (by omega) (by omega)]; exact vr_no (by omega) (by omega))
  · have := n _ 174 rfl e
    omega
  · have := n _ 175 rfl e
    omega
  · have := n _ 176 rfl e
    omega
  · have := n _ 177 rfl e
    omega
  · have := n _ 178 rfl e
    subst this
    have nv : nmv 178 a 0 = fow_s 24 127 32 a := by simp [nmv]
    exact ⟨k15, ad 39, q1, hf.1.1, ex_ofWhole hf.1 b24 (fun r hr _ => b5 (by omega) r _ (fW_ow b24) nv (by rw [hr, ow1 24 127 _ (sgn 32 a) (by rw [Z_of32]; exact (sx32 ha (va32 rfl)).2.1)]))⟩
  · have := n _ 179 rfl e
    subst this
    have nv : nmv 179 a 0 = fow 24 127 False a := by simp [nmv]
    exact ⟨k15, ad 39, q1, hf.1.1, ex_ofWhole hf.1 b24 (fun r hr _ => b5 (by omega) r _ (fW_ow b24) nv (by rw [hr, if_pos rfl, ha]))⟩
  · have := n _ 180 rfl e
    subst this
    have nv : nmv 180 a 0 = fow_s 24 127 64 a := by simp [nmv]
    exact ⟨k15, ad 39, q1, hf.1.1, ex_ofWhole hf.1 b24 (fun r hr _ => b5 (by omega) r _ (fW_ow b24) nv (by rw [hr, ow1 24 127 _ (sgn 64 a) (by rw [sg64, ha])]))⟩
  · have := n _ 181 rfl e
    subst this
    have nv : nmv 181 a 0 = fow 24 127 False a := by simp [nmv]
    exact ⟨k15, ad 39, q1, hf.1.1, ex_ofWhole hf.1 b24 (fun r hr _ => b5 (by omega) r _ (fW_ow b24) nv (by rw [hr, if_pos rfl, ha]))⟩
  · have := n _ 182 rfl e
    subst this
    have nv : nmv 182 a 0 = fcv 53 1023 24 127 a := by simp [nmv]
    exact ⟨k15, ad 39, q1, ad 40, q2, hf.1.1, ex_ofOther hf.2 b53 hf.1 b24 ha (fW_53.mpr (by rw [← ha]; exact v.toBitVec.isLt)) (fun r hr _ => b5 (by omega) r _ (fW_cv b24) nv hr)⟩
  · have := n _ 183 rfl e
    subst this
    have nv : nmv 183 a 0 = fow_s 53 1023 32 a := by simp [nmv]
    exact ⟨k15, ad 40, q2, hf.2.1, ex_ofWhole hf.2 b53 (fun r hr _ => b4 (by omega) r _ nv (by rw [hr, ow1 53 1023 _ (sgn 32 a) (by rw [Z_of32]; exact (sx32 ha (va32 rfl)).2.1)]; rfl))⟩
  · have := n _ 184 rfl e
    subst this
    have nv : nmv 184 a 0 = fow 53 1023 False a := by simp [nmv]
    exact ⟨k15, ad 40, q2, hf.2.1, ex_ofWhole hf.2 b53 (fun r hr _ => b4 (by omega) r _ nv (by rw [hr, if_pos rfl, ha]))⟩
  · have := n _ 185 rfl e
    subst this
    have nv : nmv 185 a 0 = fow_s 53 1023 64 a := by simp [nmv]
    exact ⟨k15, ad 40, q2, hf.2.1, ex_ofWhole hf.2 b53 (fun r hr _ => b4 (by omega) r _ nv (by rw [hr, ow1 53 1023 _ (sgn 64 a) (by rw [sg64, ha])]; rfl))⟩
  · have := n _ 186 rfl e
    subst this
    have nv : nmv 186 a 0 = fow 53 1023 False a := by simp [nmv]
    exact ⟨k15, ad 40, q2, hf.2.1, ex_ofWhole hf.2 b53 (fun r hr _ => b4 (by omega) r _ nv (by rw [hr, if_pos rfl, ha]))⟩
  · have := n _ 187 rfl e
    subst this
    have nv : nmv 187 a 0 = fcv 24 127 53 1023 a := by simp [nmv]
    exact ⟨k15, ad 40, q2, ad 39, q1, hf.2.1, ex_ofOther hf.1 b24 hf.2 b53 ha (by rw [← ha]; exact vr_fW (τ := 125) hv b24) (fun r hr _ => b4 (by omega) r _ nv hr)⟩
  · have h9 : 188 ≤ o := by
      rw [z_eq, hx] at z1 z6 z7 z12 z13 z14 z15 z16 z17 z18 z19 z20 z21
      simp only [Int32.reduceToInt] at z1 z6 z7 z12 z13 z14 z15 z16 z17 z18 z19 z20 z21
      omega
    have h8 : o = 188 ∨ o = 189 ∨ o = 190 ∨ o = 191 := by omega
    rcases h8 with e | e | e | e <;> subst e
    · have nv : nmv 188 a 0 = a := by simp [nmv]
      exact hQ _ (nmI_e (by rw [nv, ha]) (fun _ => by rw [nv, ← ha]; exact vr_w hv (.inr rfl))) (fun _ => hv (.inr rfl))
    · have nv : nmv 189 a 0 = a := by simp [nmv]
      exact hQ _ (nmI_e (by rw [nv, ha]) (fun h7 => absurd h7 (by decide))) (fun h7 => absurd h7 (by decide))
    · have nv : nmv 190 a 0 = a := by simp [nmv]
      exact hQ _ (nmI_e (by rw [nv, ha]) (fun _ => by rw [nv, ← ha]; exact vr_w hv (.inl rfl))) (fun _ => hv (.inl rfl))
    · have nv : nmv 191 a 0 = a := by simp [nmv]
      exact hQ _ (nmI_e (by rw [nv, ha]) (fun h7 => absurd h7 (by decide))) (fun h7 => absurd h7 (by decide))
theorem mc_convert {x1 : Int32} {o : Nat} {c : List Int} {Qr : xb_H → Prop} (hB : cB own ad h) (hW : wI own ad h W σ) (hS : mS ad h) (hf : fI ad h) (hr : rX ad h W D gx t P lcn p0 E lo ν0 g G) (hx : x1.toInt = o) (h1 : 167 ≤ o) (h2 : o ≤ 191) (hc : gC (gx (D - 1)) = List.replicate (sgN o) (sgA o) ++ c) (hQ : ∀ h' : xb_H, nX own ad h W D gx t P lcn p0 E lo ν0 g G (nmt o (nVa (xb_l h (ad 37)) (gO (gx (D - 1)) + c.length)) (nVb o (xb_l h (ad 37)) (gO (gx (D - 1)) + c.length))) (nmI o (nVa (xb_l h (ad 37)) (gO (gx (D - 1)) + c.length)) (nVb o (xb_l h (ad 37)) (gO (gx (D - 1)) + c.length))) (sgR o :: c) h' → Qr h') : w_Machine_convert (ad 15) x1 h Qr := by
  have k15 : xb_k h (ad 15) = 8 := hB.k 15 (by omega)
  have k37 : xb_k h (ad 37) = 103 := hB.k 37 (by omega)
  have r9 : xb_r h (ad 15) 9 = some (ad 37) := hB.r (15, 9, 37) (by decide)
  have q1 : xb_r h (ad 15) 1 = some (ad 39) := hB.r (15, 1, 39) (by decide)
  have q2 : xb_r h (ad 15) 2 = some (ad 40) := hB.r (15, 2, 40) (by decide)
  have b24 : fpb 125 24 127 := .inl ⟨rfl, rfl, rfl⟩
  have b53 : fpb 124 53 1023 := .inr ⟨rfl, rfl, rfl⟩
  have sg1 : sgN o = 1 := sg_8 o (by omega) (by omega)
  have hn : gC (gx (D - 1)) = sgA o :: c := by
    rw [hc, sg1]
    rfl
  obtain ⟨p1, p2, p3, p4⟩ := hr.tp1 hS hn
  obtain ⟨a, ha⟩ : ∃ a, a = nVa (xb_l h (ad 37)) (gO (gx (D - 1)) + c.length) := ⟨_, rfl⟩
  have hb0 : nVb o (xb_l h (ad 37)) (gO (gx (D - 1)) + c.length) = 0 := if_neg (by omega)
  rw [hb0, ← ha] at hQ
  have n : ∀ (k : Int32) (m : Nat), k.toInt = m → x1 = k → o = m := fun k m hk e => by rw [e, hk] at hx; omega
  unfold w_Machine_convert
  refine ⟨k15, ad 37, r9, k37, p1, fun v5 e5 => ?_⟩
  rw [p3] at e5
  have hv5 : vr (sgA o) v5 := by rw [e5]; exact p4
  have ha5 : v5.toBitVec.toNat = a := by rw [e5, ha]; rfl
  have L172 : ¬ (168 ≤ o ∧ o ≤ 171) → ¬ (174 ≤ o ∧ o ≤ 177) → w_Machine_convert_L172 Qr (ad 15) x1 v5 h := by
    intro h3 h4
    rw [nmt_z (by omega)] at hQ
    unfold w_Machine_convert_L172 w_Machine_convert_L189
    refine ⟨k15, ad 37, r9, mc_converted hB hf hx h1 h2 h3 h4 hv5 ha5 (fun r4 hr4 hr5 _ => ⟨k37, p1, fun h7 e7 => ?_⟩)⟩
    rw [e7]
    rw [← hr4] at hQ
    exact hQ _ (hr.n1 hB hn p3 hr5)
  have T : ∀ (F w pf bf : Nat) (τ0 τ : Int) (x4 s : Int32), fm h F τ0 → fpb τ0 pf bf → sgA o = τ0 → sgR o = τ → (x4 = 32 ∨ τ = 126) → x4.toInt = w → (w = 32 ∨ w = 64) → (s ≠ 0 ↔ o % 2 = 0) → (∀ a, nmt o a 0 = cutT pf bf w a (o % 2 = 0)) → (∀ a, nmv o a 0 = fcw pf bf w a) → nmr o = w → w_Machine_truncate (ad 15) F v5 x4 s h (fun (h2 : xb_H) => xb_ext h h2 → Qr h2) := by
    intro F w pf bf τ0 τ x4 s hm hpb hA hR9 hτ hw w6 hs hT hV hR
    rw [hR9] at hQ
    exact mc_truncate hB hW hS hm hpb hr hn hτ ha5 (by rw [← ha5]; exact vr_fW (by rw [← hA]; exact hv5) hpb) hw w6 hs (hT a) (hV a) hR (fun h' hh _ => hQ h' hh)
  have pr : ∀ (k : Int32) (m : Nat), k.toInt = m → (x1 = k ↔ o = m) := fun k m hk => by rw [z_eq, hx, hk]; omega
  have L68 : o = 168 ∨ o = 169 → w_Machine_convert_L68 Qr (ad 15) x1 v5 h := by
    intro h9
    unfold w_Machine_convert_L68 w_Machine_convert_L88 w_Machine_convert_L189
    rw [pr 168 168 rfl]
    have hT : ∀ a, nmt o a 0 = cutT 24 127 32 a (o % 2 = 0) := fun a => by
      unfold nmt
      rw [if_neg (by omega), if_neg (by omega), if_pos h9]
    have hV : ∀ a, nmv o a 0 = fcw 24 127 32 a := fun a => by rcases h9 with h9 | h9 <;> subst h9 <;> simp [nmv]
    have hA : sgA o = 125 ∧ sgR o = 127 ∧ nmr o = 32 := by rcases h9 with h9 | h9 <;> subst h9 <;> decide
    exact ⟨k15, ad 39, q1, fun e => ⟨k15, T _ 32 24 127 125 127 32 0 hf.1 b24 hA.1 hA.2.1 (.inl rfl) rfl (.inl rfl) ⟨fun h8 => absurd rfl h8, fun h8 => by omega⟩ hT hV hA.2.2⟩, fun e => ⟨k15, T _ 32 24 127 125 127 32 1 hf.1 b24 hA.1 hA.2.1 (.inl rfl) rfl (.inl rfl) ⟨fun _ => by omega, fun _ => by decide⟩ hT hV hA.2.2⟩⟩
  have L94 : o = 170 ∨ o = 171 → w_Machine_convert_L94 Qr (ad 15) x1 v5 h := by
    intro h9
    unfold w_Machine_convert_L94 w_Machine_convert_L114 w_Machine_convert_L189
    rw [pr 170 170 rfl]
    have hT : ∀ a, nmt o a 0 = cutT 53 1023 32 a (o % 2 = 0) := fun a => by
      unfold nmt
      rw [if_neg (by omega), if_neg (by omega), if_neg (by omega), if_pos h9]
    have hV : ∀ a, nmv o a 0 = fcw 53 1023 32 a := fun a => by rcases h9 with h9 | h9 <;> subst h9 <;> simp [nmv]
    have hA : sgA o = 124 ∧ sgR o = 127 ∧ nmr o = 32 := by rcases h9 with h9 | h9 <;> subst h9 <;> decide
    exact ⟨k15, ad 40, q2, fun e => ⟨k15, T _ 32 53 1023 124 127 32 0 hf.2 b53 hA.1 hA.2.1 (.inl rfl) rfl (.inl rfl) ⟨fun h8 => absurd rfl h8, fun h8 => by omega⟩ hT hV hA.2.2⟩, fun e => ⟨k15, T _ 32 53 1023 124 127 32 1 hf.2 b53 hA.1 hA.2.1 (.inl rfl) rfl (.inl rfl) ⟨fun _ => by omega, fun _ => by decide⟩ hT hV hA.2.2⟩⟩
  have L120 : o = 174 ∨ o = 175 → w_Machine_convert_L120 Qr (ad 15) x1 v5 h := by
    intro h9
    unfold w_Machine_convert_L120 w_Machine_convert_L140 w_Machine_convert_L189
    rw [pr 174 174 rfl]
    have hT : ∀ a, nmt o a 0 = cutT 24 127 64 a (o % 2 = 0) := fun a => by
      unfold nmt
      rw [if_neg (by omega), if_neg (by omega), if_neg (by omega), if_neg (by omega), if_pos h9]
    have hV : ∀ a, nmv o a 0 = fcw 24 127 64 a := fun a => by rcases h9 with h9 | h9 <;> subst h9 <;> simp [nmv]
    have hA : sgA o = 125 ∧ sgR o = 126 ∧ nmr o = 64 := by rcases h9 with h9 | h9 <;> subst h9 <;> decide
    exact ⟨k15, ad 39, q1, fun e => ⟨k15, T _ 64 24 127 125 126 64 0 hf.1 b24 hA.1 hA.2.1 (.inr rfl) rfl (.inr rfl) ⟨fun h8 => absurd rfl h8, fun h8 => by omega⟩ hT hV hA.2.2⟩, fun e => ⟨k15, T _ 64 24 127 125 126 64 1 hf.1 b24 hA.1 hA.2.1 (.inr rfl) rfl (.inr rfl) ⟨fun _ => by omega, fun _ => by decide⟩ hT hV hA.2.2⟩⟩
  have L146 : o = 176 ∨ o = 177 → w_Machine_convert_L146 Qr (ad 15) x1 v5 h := by
    intro h9
    unfold w_Machine_convert_L146 w_Machine_convert_L166 w_Machine_convert_L189
    rw [pr 176 176 rfl]
    have hT : ∀ a, nmt o a 0 = cutT 53 1023 64 a (o % 2 = 0) := fun a => by
      unfold nmt
      rw [if_neg (by omega), if_neg (by omega), if_neg (by omega), if_neg (by omega), if_neg (by omega), if_pos h9]
    have hV : ∀ a, nmv o a 0 = fcw 53 1023 64 a := fun a => by rcases h9 with h9 | h9 <;> subst h9 <;> simp [nmv]
    have hA : sgA o = 124 ∧ sgR o = 126 ∧ nmr o = 64 := by rcases h9 with h9 | h9 <;> subst h9 <;> decide
    exact ⟨k15, ad 40, q2, fun e => ⟨k15, T _ 64 53 1023 124 126 64 0 hf.2 b53 hA.1 hA.2.1 (.inr rfl) rfl (.inr rfl) ⟨fun h8 => absurd rfl h8, fun h8 => by omega⟩ hT hV hA.2.2⟩, fun e => ⟨k15, T _ 64 53 1023 124 126 64 1 hf.2 b53 hA.1 hA.2.1 (.inr rfl) rfl (.inr rfl) ⟨fun _ => by omega, fun _ => by decide⟩ hT hV hA.2.2⟩⟩
  refine ⟨fun e => L68 (.inl (n _ 168 rfl e)), fun e => L68 (.inr (n _ 169 rfl e)), fun e => L94 (.inl (n _ 170 rfl e)), fun e => L94 (.inr (n _ 171 rfl e)), fun e => L172 (by have := n _ 172 rfl e; omega) (by have := n _ 172 rfl e; omega), fun e => L172 (by have := n _ 173 rfl e; omega) (by have := n _ 173 rfl e; omega), fun e => L120 (.inl (n _ 174 rfl e)), fun e => L120 (.inr (n _ 175 rfl e)), fun e => L146 (.inl (n _ 176 rfl e)), fun e => L146 (.inr (n _ 177 rfl e)), fun z1 z2 z3 z4 z5 z6 z7 z8 z9 z10 => ?_⟩
  rw [z_eq, hx] at z1 z2 z3 z4 z5 z6 z7 z8 z9 z10
  simp only [Int32.reduceToInt] at z1 z2 z3 z4 z5 z6 z7 z8 z9 z10
  exact L172 (by omega) (by omega)
end NU4
