-- equality: the class's reader, exact: a module
section CRB
variable {α : Type} {h0 h : xb_H} {rd op md cd nt im N M rc rs b : Nat} {rw it : Nat → Nat} {cb cA : Nat → Int32} {bc bs : Nat} {Qt : String → xb_H → Nat → Nat → Prop} {R : Except (Nat × Nat) α} {KS : Sm → Except (Nat × Nat) α}
theorem mg_e : ∀ k, k < 8 → xt_mg k = mgk k := by decide
theorem mgk_r : ∀ k, k < 8 → 0 ≤ (mgk k).toInt ∧ (mgk k).toInt ≤ 127 := by decide
theorem gy_all {Qr : xb_H → Nat → Nat → Prop} (hT : rdT h0 rd op md rc rs b R Qt) (hX : rd_X h0 h rd op md) (hC : cx_ cA cb b N) (hR : R = (pMod cA b (b + N)).bind KS) (hN : N ≤ 65536)
    (hrw : ∀ k, k < 12 → xb_r h md (k + 2) = some (rw k) ∧ xr_row h (rw k) (xr_c k) 0 (it k) ∧ xb_n h (it k) = 4 ∧ xb_k h0 (rw k) = 0 ∧ xb_k h0 (it k) = 0) (hr2 : ∀ i j, i < 12 → j < 12 → rw i = rw j → i = j) (hr3 : ∀ i j, i < 12 → j < 12 → it i = it j → i = j)
    (him : xb_r h md 14 = some im ∧ xb_k h im = 102 ∧ xb_n h im = 4 ∧ xb_k h0 im = 0 ∧ xb_i h im = fun _ => 0) (hnt : xb_r h md 1 = some nt ∧ xb_k h nt = 102 ∧ xb_n h nt = N ∧ xb_k h0 nt = 0 ∧ xb_i h nt = fun _ => 0) (hin : im ≠ nt)
    (hcd : xb_r h md 0 = some cd ∧ xb_k h cd = 100 ∧ xb_n h cd = N ∧ xb_k h0 cd = 0 ∧ xb_i h cd = cb) (hst : xb_i h md 15 = -1 ∧ xb_i h md 16 = -1) (hc : rc + 12 * N + 130 ≤ bc) (hs : rs + 96 * N + 2000 ≤ bs)
    (hQ : ∀ (h' : xb_H) (it' n' : Nat → Nat) (vs' : Nat → Nat → Int64) (ν' iv' : Nat → Int32) (q bc' bs' : Nat) (S' : Sm) (ω' : Nat → Int32), rdg ω' h0 h' rd op md cd nt im N (2 * N + 20) rc rs rw cb it' n' vs' ν' iv' q N bc' bs' → md_D N cb n' vs' ν' iv' → eR cA ν' b N S' n' vs' iv' (ω' 15) (ω' 16) → S'.1 10 = S'.1 3 → R = KS S' → Qr h' bc' bs') : w_Reader_readAll rd md h bc bs Qr Qt := by
  have krd : xb_k h rd = 4 := hX.1.k (c := 3) hX.2.2.2.2.1
  have kop : xb_k h op = 102 := hX.1.k (c := 101) hX.2.2.2.2.2.1
  have kmd : xb_k h md = 3 := hX.2.2.2.1
  have f0 : ∀ a, xb_k h0 a = 0 → a ≠ rd ∧ a ≠ op := fun a ha => ⟨fun e => (by rw [e, hX.2.2.2.2.1] at ha; cases ha), fun e => (by rw [e, hX.2.2.2.2.2.1] at ha; cases ha)⟩
  have mrd : md ≠ rd := hX.rd
  have crd := f0 cd hcd.2.2.2.1
  have nrd := f0 nt hnt.2.2.2.1
  have ird := f0 im him.2.2.2.1
  have rrd : ∀ k, k < 12 → rw k ≠ rd := fun k hk => (f0 _ (hrw k hk).2.2.2.1).1
  have ord : op ≠ rd := fun e => by rw [e, krd] at kop; cases kop
  have cnt : cd ≠ nt := fun e => by have := hcd.2.1; rw [e, hnt.2.1] at this; cases this
  have hNI := z_nI (n := N) (by omega)
  unfold w_Reader_readAll
  refine ⟨krd, fun h2 e2 => ⟨by rw [e2]; exact kmd, cd, by rw [e2, xh_rP, if_neg mrd]; exact hcd.1, fun h5 e5 => ⟨nt, by rw [e5, xh_rP, if_neg mrd, e2, xh_rP, if_neg mrd]; exact hnt.1, fun h7 e7 => ⟨cd, by rw [e7, xh_rP, if_pos rfl, xh_up, if_neg (by omega), e5, xh_rP, if_pos rfl, xh_up, if_pos rfl], by rw [e7, e5, e2]; exact hcd.2.1, fun h10 e10 => ⟨10, ?_⟩⟩⟩⟩⟩
  have n7 : xb_n h7 cd = N := by rw [e7, e5, e2]; exact hcd.2.2.1
  rw [n7] at e10
  have hX10 : rd_X h0 h10 rd op md := by
    rw [e10, e7, e5, e2]
    exact (((hX.P (by omega)).P (by omega)).P (by omega)).I (.inl rfl)
  have k10 : xb_k h10 = xb_k h := by rw [e10, e7, e5, e2]; rfl
  have nn10 : xb_n h10 = xb_n h := by rw [e10, e7, e5, e2]; rfl
  have l10 : xb_l h10 = xb_l h := by rw [e10, e7, e5, e2]; rfl
  have i10 : ∀ a, a ≠ rd → xb_i h10 a = xb_i h a := fun a ha => by rw [e10, xh_iI, if_neg ha, e7, xh_iP, e5, xh_iP, e2, xh_iP]
  have i104 : xb_i h10 rd 4 = nI N := by rw [e10, xh_iI, if_pos rfl, xh_up, if_pos rfl]
  have r10 : ∀ a, a ≠ rd → xb_r h10 a = xb_r h a := fun a ha => by rw [e10, xh_rI, e7, xh_rP, if_neg ha, e5, xh_rP, if_neg ha, e2, xh_rP, if_neg ha]
  have r10a : xb_r h10 rd 0 = some md := by rw [e10, xh_rI, e7, xh_rP, if_pos rfl, xh_up, if_neg (by omega), e5, xh_rP, if_pos rfl, xh_up, if_neg (by omega), e2, xh_rP, if_pos rfl, xh_up, if_pos rfl]
  have r10b : xb_r h10 rd 1 = some cd := by rw [e10, xh_rI, e7, xh_rP, if_pos rfl, xh_up, if_neg (by omega), e5, xh_rP, if_pos rfl, xh_up, if_pos rfl]
  have r10c : xb_r h10 rd 2 = some nt := by rw [e10, xh_rI, e7, xh_rP, if_pos rfl, xh_up, if_pos rfl]
  have kc10 : xb_k h10 cd = 100 := by rw [k10]; exact hcd.2.1
  have nc10 : xb_n h10 cd = N := by rw [nn10]; exact hcd.2.2.1
  clear e2 e5 e7 e10 n7
  have kr10 : xb_k h10 rd = 4 := by rw [k10]; exact krd
  have km10 : xb_k h10 md = 3 := by rw [k10]; exact kmd
  have L63 : ∀ (x2 : Int32) (k : Nat) (K : Nat → Int32 → xb_H → Nat → Nat → Prop), x2.toInt = k → R = .error (1, b + k) → w_Reader_readAll_L63 K Qr Qt rd x2 h10 bc bs := by
    intro x2 k K hk hRe
    unfold w_Reader_readAll_L63
    exact ⟨kr10, md, r10a, km10, y_fail (c := 1) (w := b + k) hT hX10 (by omega) (by omega) hRe rfl (by omega)⟩
  have fin : 8 ≤ N → R = (pML cA (b + N) (b + N + 2) (b + 8) 0 (fun _ => 0, fun _ _ => 0)).bind KS → ∀ h5 : xb_H, h5 = xb_I h10 rd 3 8 → w_Reader_readAll_L90 Qr Qt (N + 1) rd 0 0 h5 bc bs := by
    intro h8 hRL h5 e5
    have hG : rd_G h0 h5 rd op md cd nt im N (2 * N + 20) rc rs rw cb it (fun _ => 0) (fun _ _ => 0) (fun _ => 0) (fun _ => 0) 8 N bc bs := by
      rw [e5]
      refine ⟨hX10.I (.inl rfl), ⟨kr10, r10a, km10, r10b, kc10, nc10, by rw [xh_iI, if_pos rfl, xh_up, if_pos rfl]; rfl, by rw [xh_iI, if_pos rfl, xh_up, if_neg (by omega), i104]; exact hNI, by decide, by omega, Int.le_refl _, hN⟩, ⟨r10c, by rw [xh_kI, k10]; exact hnt.2.1, by rw [xh_nI, nn10]; exact hnt.2.2.1, by rw [xh_rI]; exact hX10.2.2.1, by rw [xh_kI, k10]; exact kop, ?_, hnt.2.2.2.1, nrd.1.symm, ord.symm, nrd.2⟩, ⟨fun k hk => ?_, hr2, hr3⟩, ?_, ?_, ⟨?_, ?_, ?_, him.2.2.2.1, ?_⟩, ⟨?_, hcd.2.2.2.1⟩, ⟨hin, ird.2, ird.1, cnt, crd.2, crd.1⟩, ?_, ?_, ?_⟩
      · rw [xh_nI, nn10, hX.1.n (c := 101) hX.2.2.2.2.2.1]
        exact hX.2.2.2.2.2.2.1
      · obtain ⟨g1, ⟨b1, b2, b3, b4, b5, b6, b7, b8⟩, g3, g4, g5⟩ := hrw k hk
        have o1 := rrd k hk
        exact ⟨by rw [xh_rI, r10 md mrd]; exact g1, ⟨by rw [xh_kI, k10]; exact b1, by rw [xh_iI, if_neg o1, i10 _ o1]; exact b2, by rw [xh_iI, if_neg o1, i10 _ o1]; exact b3, by rw [xh_rI, r10 _ o1]; exact b4, by rw [xh_kI, k10]; exact b5, Nat.zero_le _, by rw [xh_nI, nn10]; exact b7, by rw [xh_nI, nn10]; exact b8⟩, fun j hj => absurd hj (Nat.not_lt_zero j), g4, g5⟩
      · have pot : ∀ k, k < 12 → md_pot (xb_I h10 rd 3 8) it (2 * N + 20) k = 8 * N + 72 := fun k hk => by
          unfold md_pot
          rw [xh_nI, nn10, (hrw k hk).2.2.1]
          omega
        unfold md_B s12
        simp only [pot 0 (by omega), pot 1 (by omega), pot 2 (by omega), pot 3 (by omega), pot 4 (by omega), pot 5 (by omega), pot 6 (by omega), pot 7 (by omega), pot 8 (by omega), pot 9 (by omega), pot 10 (by omega), pot 11 (by omega)]
        omega
      · rw [xh_iI, if_neg nrd.1, i10 _ nrd.1]
        exact hnt.2.2.2.2
      · rw [xh_rI, r10 md mrd]
        exact him.1
      · rw [xh_kI, k10]
        exact him.2.1
      · rw [xh_nI, nn10]
        exact him.2.2.1
      · rw [xh_iI, if_neg ird.1, i10 _ ird.1]
        exact him.2.2.2.2
      · rw [xh_iI, if_neg crd.1, i10 _ crd.1]
        exact hcd.2.2.2.2
      · rw [xh_iI, if_neg mrd, i10 _ mrd, hst.1]
        exact fun _ => rfl
      · rw [xh_rI, r10 md mrd]
        exact hcd.1
      · rw [xh_rI, r10 md mrd]
        exact hnt.1
    have z : ∀ (c : Nat) (P : Nat → (Nat → Int) → Prop) (v : Nat → Int64), xr_L c P 0 v := fun c P v => ⟨0, rfl, fun i hi => by omega⟩
    have cpos : ∀ k, (k = 5 ∨ k = 7 ∨ k = 9 ∨ k = 11) → 0 < xr_c k := fun k hk => by rcases hk with e | e | e | e <;> (rw [e]; decide)
    have mz : ∀ κ : Nat, mcnt (fun _ => 0) κ (0 / 7) = 0 := fun κ => rfl
    have hω : xb_i h5 md = xb_i h md := by rw [e5, xh_iI, if_neg mrd, i10 _ mrd]
    have hE0 : eR cA (fun _ => 0) b 8 (fun _ => 0, fun _ _ => 0) (fun _ => 0) (fun _ _ => 0) (fun _ => 0) (xb_i h md 15) (xb_i h md 16) := by
      rw [hst.1, hst.2]
      exact ⟨⟨rfl, fun i hi => absurd hi (Nat.not_lt_zero i)⟩, ⟨rfl, fun i hi => absurd hi (Nat.not_lt_zero i)⟩, fun κ _ => ⟨rfl, fun i hi => absurd hi (Nat.not_lt_zero i), fun i hi => absurd hi (Nat.not_lt_zero i)⟩, fun κ _ => rfl, fun i hi => absurd hi (Nat.not_lt_zero i), ⟨rfl, fun i hi => absurd hi (Nat.not_lt_zero i)⟩, ⟨rfl, fun i hi => absurd hi (Nat.not_lt_zero i)⟩, ⟨rfl, fun i hi => absurd hi (Nat.not_lt_zero i)⟩, ⟨rfl, fun i hi => absurd hi (Nat.not_lt_zero i)⟩, fun _ => ⟨rfl, rfl⟩, fun h9 => absurd h9 (Nat.not_lt_zero _)⟩
    refine gy_readAllL hC hT (Nat.le_refl _) (by omega) (fun h' it' n' vs' ν' iv' q bc' bs' S' ω' g1 g2 => hQ h' it' n' vs' ν' iv' q bc' bs' S' ω' g1 g2) N 0 0 h5 it (fun _ => 0) (fun _ _ => 0) (fun _ => 0) (fun _ => 0) 8 bc bs _ _ ⟨hG, hω⟩ (by decide) (by decide) (by decide) ⟨⟨fun _ _ => 0, z _ _ _, z _ _ _, z _ _ _, z _ _ _, z _ _ _, z _ _ _, z _ _ _, z _ _ _, z _ _ _, z _ _ _, z _ _ _, z _ _ _, fun κ _ => by rw [mz]; rfl, fun k _ => Nat.zero_le _, fun j _ => rfl, Nat.le_refl _, Nat.le_refl _, fun k i p k' i' p' hV => ?_⟩, ⟨by decide, by decide, by decide, by decide⟩, fun _ => ⟨rfl, rfl, rfl, rfl⟩⟩ (by simp) hE0 (fun _ _ => rfl) ⟨b + N + 2, by omega, hRL⟩
    have c1 := cpos k hV.1
    have c2 : xr_c k * i + xr_c k ≤ 0 := hV.2.1
    omega
  have key : ∀ (m : Nat) (x2 : Int32) (k : Nat), x2.toInt = k → k ≤ 8 → k ≤ N → 8 - k ≤ m → R = ((pHd cA b (b + N) (8 - k) k).bind (fun _ => pML cA (b + N) (b + N + 2) (b + 8) 0 (fun _ => 0, fun _ _ => 0))).bind KS → w_Reader_readAll_L32 Qr Qt (m + 1) rd x2 h10 bc bs := by
    intro m
    induction m with
    | zero =>
      intro x2 k a1 a2 a3 a4 a5
      unfold w_Reader_readAll_L32
      refine ⟨fun e => ⟨kr10, fun h5 e5 => ⟨N + 1, fin (by omega) (by rw [a5, show 8 - k = 0 by omega]; rfl) h5 e5⟩⟩, fun e => ?_⟩
      rw [z_le] at e
      simp only [Int32.reduceToInt] at e
      omega
    | succ m ih =>
      intro x2 k a1 a2 a3 a4 a5
      · unfold w_Reader_readAll_L32 w_Reader_readAll_L72
        have e1 : (x2 + 1).toInt = (k + 1 : Nat) := z_inc a1 (by omega)
        have hd1 : k < 8 → (b + N ≤ b + k ∨ ¬ ub cA (b + k) = mgk k) → R = .error (1, b + k) := fun h9 h7 => by
          rw [a5, show 8 - k = (8 - (k + 1)) + 1 by omega]
          unfold pHd
          rw [if_pos h7]
          rfl
        have hcq : k < N → (xb_i h10 cd k = mgk k ↔ ub cA (b + k) = mgk k) := fun h9 => by
          rw [i10 _ crd.1, hcd.2.2.2.2, z_eq, z_eq, ub_i, ← hC.1 k h9]
          have := hC.2.2 k
          by_cases h8 : k < 8
          · have := mgk_r k h8
            omega
          · have : (mgk k).toInt = 0 := by
              have : k = 8 := by omega
              subst this
              rfl
            omega
        have ck : x2.toNatClampNeg = k := by rw [z_cl, a1]; omega
        refine ⟨fun e => ⟨kr10, fun h5 e5 => ⟨N + 1, fin (by rw [z_le] at e; simp only [Int32.reduceToInt] at e; omega) (by rw [z_le] at e; simp only [Int32.reduceToInt] at e; rw [a5, show 8 - k = 0 by omega]; rfl) h5 e5⟩⟩, fun e => ⟨kr10, cd, r10b, kc10, fun e2 => L63 x2 k _ a1 (hd1 (by rw [z_le] at e; simp only [Int32.reduceToInt] at e; omega) (.inl (by rw [nc10, z_le, hNI] at e2; omega))), fun e2 => ⟨cd, r10b, kc10, ?_, ?_, fun e3 => ?_, fun e3 => L63 x2 k _ a1 ?_⟩⟩⟩
        · rw [nc10, z_le, hNI] at e2
          rw [z_in, nc10]
          omega
        · rw [z_le] at e
          simp only [Int32.reduceToInt] at e
          rw [z_in]
          omega
        · rw [nc10, z_le, hNI] at e2
          rw [z_le] at e
          simp only [Int32.reduceToInt] at e
          rw [ck, mg_e k (by omega), hcq (by omega)] at e3
          exact ih (x2 + 1) (k + 1) e1 (by omega) (by omega) (by omega) (by rw [a5, show 8 - k = (8 - (k + 1)) + 1 by omega, pHd_1 (by omega) e3])
        · rw [nc10, z_le, hNI] at e2
          rw [z_le] at e
          simp only [Int32.reduceToInt] at e
          rw [ck, mg_e k (by omega), hcq (by omega)] at e3
          exact hd1 (by omega) (.inr e3)
  exact key 9 0 0 rfl (by decide) (by omega) (by decide) hR
end CRB
