-- equality: the class's reader, exact: what is written with an instruction
/-- the class's notes of the instruction at j (its place among the module's bytes), which ends ahead of q (its place among all bytes) -/
def nXc (cb ν : Nat → Int32) (b s j q : Nat) : Prop :=
  (ν j).toInt + b = q ∧ (s = 4 ∨ s = 5 ∨ s = 6 ∨ s = 7 → (ν (j + 1)).toBitVec.toNat = cV cb (b + j + 1)) ∧ (s = 5 → ∀ k, k ≤ cV cb (b + j + 1) → (ν (j + 2 + k)).toBitVec.toNat = lbl cb (b + j) k) ∧ (s = 7 → (ν (j + 2)).toBitVec.toNat = cV cb (cE cb (b + j + 1))) ∧
  (s = 9 → ν (j + 1) = (svC cb 5 (b + j + 1) 0 0).toInt32) ∧ (s = 10 → ν (j + 1) = (svC cb 10 (b + j + 1) 0 0).toInt32 ∧ (b + j + 2 < q → ν (j + 2) = (xb_lushr (svC cb 10 (b + j + 1) 0 0) 32).toInt32)) ∧
  (s = 11 → ν (j + 1) = (byv cb 4 (b + j + 1) 0 0).toInt32) ∧ (s = 12 → ν (j + 1) = (byv cb 8 (b + j + 1) 0 0).toInt32 ∧ ν (j + 2) = (xb_lushr (byv cb 8 (b + j + 1) 0 0) 32).toInt32)
section CR4
variable {α : Type} {h0 : xb_H} {rd op md cd nt N rc rs b p p1 q e w s : Nat} {cb : Nat → Int32} {R : Except (Nat × Nat) α} {Qt : String → xb_H → Nat → Nat → Prop} {h : xb_H} {bc bs : Nat} {K : Nat → Except (Nat × Nat) α} {f : Nat → Int32}
theorem cnR (h1 : (¬ ∃ q x, rC cb p = some (q, x) ∧ q ≤ e) → R = .error (fC cb e p)) : R = (pCx cb e p).bind (fun _ => R) := by
  by_cases hq : ∃ q x, rC cb p = some (q, x) ∧ q ≤ e
  · obtain ⟨q, x, h8, h9⟩ := hq
    rw [pCx_s h8 h9]
    rfl
  · rw [pCx_n hq, h1 hq]
    rfl
theorem mrR {x1 x2 : Int32} (h1 : e ≤ p → R = .error (2, e)) (h2 : p < e → ¬ (¬ ub cb p < x1 ∧ ub cb p ≤ x2) → R = .error (5, p)) : R = (pW cb e x1 x2 p).bind (fun _ => R) := by
  rcases Nat.lt_or_ge p e with h9 | h9
  · by_cases hx : ¬ ub cb p < x1 ∧ ub cb p ≤ x2
    · rw [pW_s h9 hx]
      rfl
    · rw [pW_5 h9 hx, h2 h9 hx]
      rfl
  · rw [pW_2 h9, h1 h9]
    rfl
theorem pWr_sx (h1 : rW cb s p q) (h2 : q ≤ e) : pWr cb e w s p = .ok q := mkP_s (fun q q' a b => rW_f a b) h1 h2
theorem pWr_n (h1 : ¬ ∃ q, rW cb s p q ∧ q ≤ e) : pWr cb e w s p = .error (fWr cb e w s p) := mkP_n h1
theorem pWr_4n (h1 : ¬ ∃ q x, rC cb p = some (q, x) ∧ q ≤ e) : pWr cb e w 4 p = .error (fC cb e p) := pWr_n (fun ⟨q, a1, a2⟩ => by
  obtain ⟨x, a3⟩ := rW_4i.mp a1
  exact h1 ⟨q, x, a3, a2⟩)
theorem pWr_5n (h1 : ¬ ∃ q x, rC cb p = some (q, x) ∧ q ≤ e) : pWr cb e w 5 p = .error (fC cb e p) := by
  rw [pWr_n]
  · show Except.error (thC cb e p _) = _
    rw [thC_n h1]
  · rintro ⟨q, a1, a2⟩
    obtain ⟨p1, L, p2, x, a3, a4, a5⟩ := rW_5i.mp a1
    have := cks_b a4
    have := rC_b a5
    exact h1 ⟨p1, L, a3, by omega⟩
theorem pWr_6n (h1 : ¬ ∃ q x, rC cb p = some (q, x) ∧ q ≤ e) : pWr cb e w 6 p = .error (fC cb e p) := by
  rw [pWr_n]
  · show Except.error (thC cb e p _) = _
    rw [thC_n h1]
  · rintro ⟨q, a1, a2⟩
    obtain ⟨p1, x, a3, a4, a5⟩ := rW_6i.mp a1
    exact h1 ⟨p1, x, a3, by omega⟩
theorem pWr_6m {x : Int64} (h1 : rC cb p = some (p1, x)) (h2 : p1 ≤ e) (h3 : ¬ (p1 < e ∧ ub cb p1 = 0)) : pWr cb e w 6 p = .error (fVT e p1) := by
  rw [pWr_n]
  · show Except.error (thC cb e p _) = _
    rw [thC_s h1 h2]
  · rintro ⟨q, a1, a2⟩
    obtain ⟨p1', x', a3, a4, a5⟩ := rW_6i.mp a1
    obtain ⟨e1, e2⟩ := rC_in h1 a3
    subst e1
    exact h3 ⟨by omega, a4⟩
theorem pWr_7n (h1 : ¬ ∃ q x, rC cb p = some (q, x) ∧ q ≤ e) : pWr cb e w 7 p = .error (fC cb e p) := by
  rw [pWr_n]
  · show Except.error (thC cb e p _) = _
    rw [thC_n h1]
  · rintro ⟨q, a1, a2⟩
    obtain ⟨p1, x, y, a3, a4⟩ := rW_7i.mp a1
    have := rC_b a4
    exact h1 ⟨p1, x, a3, by omega⟩
theorem pWr_7m {x : Int64} (h1 : rC cb p = some (p1, x)) (h2 : p1 ≤ e) (h3 : ¬ ∃ q x, rC cb p1 = some (q, x) ∧ q ≤ e) : pWr cb e w 7 p = .error (fC cb e p1) := by
  rw [pWr_n]
  · show Except.error (thC cb e p _) = _
    rw [thC_s h1 h2]
  · rintro ⟨q, a1, a2⟩
    obtain ⟨p1', x', y, a3, a4⟩ := rW_7i.mp a1
    obtain ⟨e1, e2⟩ := rC_in h1 a3
    subst e1
    exact h3 ⟨q, y, a4, a2⟩
theorem pWr_8n (h3 : ¬ (p < e ∧ ub cb p = 0)) : pWr cb e w 8 p = .error (fVT e p) := pWr_n (fun ⟨q, a1, a2⟩ => by
  obtain ⟨a3, a4⟩ := rW_8i.mp a1
  exact h3 ⟨by omega, a3⟩)
theorem pWr_9n (h1 : ¬ ∃ q, rds cb 32 5 p = some q ∧ q ≤ e) : pWr cb e w 9 p = .error (fds cb e 32 5 p) := pWr_n (fun ⟨q, a1, a2⟩ => h1 ⟨q, rW_9i.mp a1, a2⟩)
theorem pWr_10n (h1 : ¬ ∃ q, rds cb 64 10 p = some q ∧ q ≤ e) : pWr cb e w 10 p = .error (fds cb e 64 10 p) := pWr_n (fun ⟨q, a1, a2⟩ => h1 ⟨q, rW_10i.mp a1, a2⟩)
theorem pWr_11n (h1 : e < p + 4) : pWr cb e w 11 p = .error (2, e) := pWr_n (fun ⟨q, a1, a2⟩ => by
  have := rW_11i.mp a1
  omega)
theorem pWr_12n (h1 : e < p + 8) : pWr cb e w 12 p = .error (2, e) := pWr_n (fun ⟨q, a1, a2⟩ => by
  have := rW_12i.mp a1
  omega)
theorem pWr_13n : pWr cb e w 13 p = .error (5, w) := pWr_n (fun ⟨q, a1, a2⟩ => rW_13i a1)
theorem pWr_1n (h3 : ¬ (p < e ∧ (ub cb p = 64 ∨ (¬ ub cb p < 124 ∧ ¬ 127 < ub cb p)))) : pWr cb e w 1 p = .error (fVT e p) := pWr_n (fun ⟨q, a1, a2⟩ => by
  obtain ⟨a3, a4⟩ := rW_1i.mp a1
  exact h3 ⟨by omega, a4⟩)
theorem fVT_2 (h1 : e ≤ p) : fVT e p = (2, e) := if_pos h1
theorem fVT_5 (h1 : p < e) : fVT e p = (5, p) := if_neg (by omega)
theorem fRow_k : ∀ {j m p pj : Nat}, cks cb j p = some pj → pj ≤ e → fRow cb e 0 (m + j) p = fRow cb e 0 m pj
  | 0, m, p, pj, h1, h2 => by
    simp only [cks, Option.some.injEq] at h1
    rw [h1]
    rfl
  | j + 1, m, p, pj, h1, h2 => by
    unfold cks at h1
    split at h1
    · rename_i a x e9
      have := cks_b h1
      rw [show m + (j + 1) = (m + j) + 1 by omega, fRow_c rfl e9 (by omega)]
      exact fRow_k h1 h2
    · cases h1
theorem lab_f {L : Int64} {j pj : Nat} (hp1 : rC cb p = some (p1, L)) (h1 : p1 ≤ e) (hj : cks cb j p1 = some pj) (hpj : pj ≤ e) (hjL : j ≤ L.toInt.toNat) (hn : ¬ ∃ q x, rC cb pj = some (q, x) ∧ q ≤ e) : pWr cb e w 5 p = .error (fC cb e pj) := by
  have hcb := cks_b hj
  have hfr : j < L.toInt.toNat → fRow cb e 0 (e - p1 + 1) p1 = fC cb e pj := fun _ => by
    rw [show e - p1 + 1 = (e - p1 - j + 1) + j by omega, fRow_k hj hpj, fRow_cn rfl hn]
  have hno : ∀ p2, cks cb L.toInt.toNat p1 = some p2 → j < L.toInt.toNat → ¬ p2 ≤ e := fun p2 h8 h9 h7 => by
    obtain ⟨pk, g1, g2⟩ := cks_pre h8 (show j ≤ L.toInt.toNat by omega)
    rw [hj] at g1
    simp only [Option.some.injEq] at g1
    subst g1
    rw [show L.toInt.toNat - j = (L.toInt.toNat - j - 1) + 1 by omega] at g2
    unfold cks at g2
    split at g2
    · rename_i a x e9
      have := cks_b g2
      exact hn ⟨a, x, e9, by omega⟩
    · cases g2
  rw [pWr_n]
  · show Except.error (thC cb e p _) = _
    rw [thC_s hp1 h1]
    rcases Nat.lt_or_ge j L.toInt.toNat with h9 | h9
    · split
      · rename_i p2 e9
        rw [if_neg (hno p2 e9 h9), hfr h9]
      · rw [hfr h9]
    · rw [show L.toInt.toNat = j by omega, hj]
      show Except.error (if pj ≤ e then fC cb e pj else _) = _
      rw [if_pos hpj]
  · rintro ⟨q, a1, a2⟩
    obtain ⟨p1', L', p2, x, a3, a4, a5⟩ := rW_5i.mp a1
    obtain ⟨e1, e2⟩ := rC_in hp1 a3
    subst e1 e2
    have := rC_b a5
    rcases Nat.lt_or_ge j L.toInt.toNat with h9 | h9
    · exact hno p2 a4 h9 (by omega)
    · rw [show L.toInt.toNat = j by omega, hj] at a4
      simp only [Option.some.injEq] at a4
      subst a4
      exact hn ⟨q, x, a5, a2⟩
theorem rq.E {v : Int32} {ν : Nat → Int32} (hs : rq h rd md cd N b p e cb) (hn : rd_n h0 h rd nt op N) (hcd : cd ≠ nt ∧ cd ≠ op) (hq : v.toInt + b = q) (h1 : b ≤ q) (h2 : q ≤ e) : rq (rd_E h rd nt op v ν f) rd md cd N b q e cb := by
  obtain ⟨a1, a2, a3, a4, a5⟩ := hs
  refine ⟨h1, a2, ?_, a4, fun j hj => ?_⟩
  · have := a3.E (v := v) (ν := ν) (f := f) hn (by omega) (by omega)
    rw [show v.toInt = ((q - b : Nat) : Int) by omega] at this
    exact this
  · rw [rdE_io a4 hcd.1 hcd.2]
    exact a5 j hj
theorem y_noteLong {j : Nat} {x1 v : Int32} {x2 : Int64} {ν : Nat → Int32} {Qr : xb_H → Prop} (hs : rq h rd md cd N b p e cb) (hn : rd_n h0 h rd nt op N) (hp : x1.toInt = j) (hv : (j : Int) + 2 ≤ v.toInt) (hl : v.toInt + b ≤ e)
    (hQ : ∀ ν' : Nat → Int32, (∀ k, k ≤ j → ν' k = ν k) → (∀ k : Nat, v.toInt ≤ k → ν' k = ν k) → ν' (j + 1) = x2.toInt32 → ((j : Int) + 2 < v.toInt → ν' (j + 2) = (xb_lushr x2 32).toInt32) → Qr (rd_E h rd nt op v ν' f)) : w_Reader_noteLong rd x1 x2 (rd_E h rd nt op v ν f) Qr := by
  obtain ⟨k1, k2, k3, k4, k5, k6, k7, k8, k9, k10, k11, k12⟩ := hs.2.2.1
  obtain ⟨n1, n2, n3, n4, n5, n6, n7, n8, n9, n10⟩ := id hn
  have hr := hs.rg
  have r1 := z_rg x1
  have e1 : (x1 + 1).toInt = j + 1 := by rw [z_add, hp]; simp only [Int32.reduceToInt]; omega
  have e2 : (x1 + 2).toInt = j + 2 := by rw [z_add, hp]; simp only [Int32.reduceToInt]; omega
  have c1 : (x1 + 1).toNatClampNeg = j + 1 := by rw [z_cl, e1]; omega
  have c2 : (x1 + 2).toNatClampNeg = j + 2 := by rw [z_cl, e2]; omega
  unfold w_Reader_noteLong w_Reader_noteLong_L33
  refine ⟨k1, nt, n1, n2, by rw [z_in, e1, rdE_n, n3]; omega, fun h5 e5 => ?_⟩
  rw [c1, rdE_nt n8 n10] at e5
  subst e5
  rw [rdE_iat n8 n9]
  refine ⟨fun h6 => hQ _ (fun k hj => ?_) (fun k hj => ?_) (by rw [xh_up, if_pos rfl]) (fun h9 => ?_), fun h6 => ⟨nt, n1, n2, by rw [z_le, e2] at h6; rw [z_in, e2, rdE_n, n3]; omega, fun h10 e10 => ?_⟩⟩
  · rw [xh_up, if_neg (by omega)]
  · rw [xh_up, if_neg (by omega)]
  · rw [z_le, e2] at h6
    omega
  · rw [z_le, e2] at h6
    rw [c2, rdE_nt n8 n10] at e10
    subst e10
    refine hQ _ (fun k hj => ?_) (fun k hj => ?_) ?_ (fun _ => by rw [xh_up, if_pos rfl])
    · rw [xh_up, if_neg (by omega), xh_up, if_neg (by omega)]
    · rw [xh_up, if_neg (by omega), xh_up, if_neg (by omega)]
    · rw [xh_up, if_neg (by omega), xh_up, if_pos rfl]
theorem y_readOperands {j : Nat} {x1 x2 v : Int32} {ν : Nat → Int32} {Qr : xb_H → Nat → Nat → Prop} (hT : rdT h0 rd op md rc rs b R Qt) (hX : rd_X h0 h rd op md) (hs : rq h rd md cd N b p e cb) (hn : rd_n h0 h rd nt op N) (hcd : cd ≠ nt ∧ cd ≠ op) (hc : rc + 1 ≤ bc) (hb : rs + 6 ≤ bs) (hby : ∀ j, -128 ≤ (cb j).toInt ∧ (cb j).toInt ≤ 127)
    (h1 : x1.toInt = s) (h2 : x2.toInt = j) (hv : v.toInt = j + 1) (hl : b + j + 1 ≤ e) (hs5 : 4 ≤ s ∧ s ≠ 5 ∧ s ≤ 13) (hR : R = (pWr cb e (b + j) s (b + j + 1)).bind K)
    (hQ : ∀ (q : Nat) (v' : Int32) (ν' : Nat → Int32), v'.toInt + b = q → q ≤ e → b ≤ q → rW cb s (b + j + 1) q → rd_op s j (q - b) ν ν' → nXc cb ν' b s j q → R = K q → Qr (rd_E h rd nt op v' ν' f) bc bs) : w_Reader_readOperands rd x1 x2 (rd_E h rd nt op v ν f) bc bs Qr Qt := by
  obtain ⟨k1, k2, k3, k4, k5, k6, k7, k8, k9, k10, k11, k12⟩ := hs.2.2.1
  obtain ⟨n1, n2, n3, n4, n5, n6, n7, n8, n9, n10⟩ := id hn
  have hr := hs.rg
  have r1 := z_rg x2
  have e1 : (x2 + 1).toInt = j + 1 := by rw [z_add, h2]; simp only [Int32.reduceToInt]; omega
  have e2 : (x2 + 2).toInt = j + 2 := by rw [z_add, h2]; simp only [Int32.reduceToInt]; omega
  have c0 : x2.toNatClampNeg = j := by rw [z_cl, h2]; omega
  have c1 : (x2 + 1).toNatClampNeg = j + 1 := by rw [z_cl, e1]; omega
  have c2 : (x2 + 2).toNatClampNeg = j + 2 := by rw [z_cl, e2]; omega
  have hE : ∀ (v : Int32) (ν : Nat → Int32), rd_X h0 (rd_E h rd nt op v ν f) rd op md := fun v ν => hX.E hn
  have hF : ∀ (v : Int32) (ν : Nat → Int32) (q : Nat), v.toInt + b = q → b ≤ q → q ≤ e → rq (rd_E h rd nt op v ν f) rd md cd N b q e cb := fun v ν q g1 g2 g3 => hs.E hn hcd g1 g2 g3
  have last : ∀ (v' : Int32) (ν' : Nat → Int32) (q : Nat), v'.toInt + b = q → q ≤ e → b + j + 2 ≤ q → (∀ k, k < j → ν' k = ν k) → (∀ k, q - b ≤ k → ν' k = ν k) → (s = 6 ∨ s = 7 ∨ s = 11 ∨ s = 12 → b + j + 3 ≤ q) → rW cb s (b + j + 1) q → (∀ ν2 : Nat → Int32, (∀ k, j < k → ν2 k = ν' k) → (ν2 j).toInt + b = q → nXc cb ν2 b s j q) → w_Reader_readOperands_L193 Qr Qt rd x2 (rd_E h rd nt op v' ν' f) bc bs := by
    intro v' ν' q g1 g2 g3 g4 g5 g6 g7 g8
    have g9 := g7.2.2.2.2.2.2.2.2.2.2.2
    unfold w_Reader_readOperands_L193
    refine ⟨k1, nt, n1, n2, by rw [z_in, h2, rdE_n, n3]; omega, fun h5 e5 => ?_⟩
    rw [c0, rdE_nt n8 n10, rdE_iat n8 n9] at e5
    subst e5
    refine hQ q v' _ g1 g2 (by omega) g7 ⟨fun k hj => ?_, fun k hj => ?_, ?_, ⟨by omega, fun e => absurd e hs5.2.1, fun e => by have := g6 e; omega, g9⟩⟩ (g8 _ (fun k hk => by rw [xh_up, if_neg (by omega)]) (by rw [xh_up, if_pos rfl]; exact g1)) (by rw [hR, pWr_sx g7 g2]; rfl)
    · rw [xh_up, if_neg (by omega)]; exact g4 k hj
    · rw [xh_up, if_neg (by omega)]; exact g5 k hj
    · rw [xh_up, if_pos rfl]; omega
  have hv' : v.toInt + b = (b + j + 1 : Nat) := by omega
  have fl : s = 5 ∨ s = 13 → w_Reader_readOperands_L184 Qr Qt rd x2 (rd_E h rd nt op v ν f) bc bs := fun h13 => ⟨k1, md, k2, k3, y_fail (c := 5) (w := b + j) hT (hE v ν) hc hb (by rw [hR, show s = 13 by omega, pWr_13n]; rfl) rfl (by omega)⟩
  have up1 : ∀ (u : Int32) (q : Nat), b + j + 2 ≤ q → (∀ k, k < j → va_up ν (j + 1) u k = ν k) ∧ (∀ k, q - b ≤ k → va_up ν (j + 1) u k = ν k) := fun u q hq => ⟨fun k hk => by rw [xh_up, if_neg (by omega)], fun k hk => by rw [xh_up, if_neg (by omega)]⟩
  have gs : ∀ {c : Int32} {n : Nat}, c.toInt = n → x1 = c → s = n := fun hc g => by
    rw [z_eq, h1, hc] at g
    omega
  unfold w_Reader_readOperands
  refine ⟨fun g => ⟨k1, nt, n1, ?_⟩, fun g => ?_, fun g => ⟨k1, nt, n1, ?_⟩, fun g => ⟨k1, nt, n1, ?_⟩, fun g => ⟨k1, ?_⟩, fun g => ⟨k1, nt, n1, ?_⟩, fun g => ⟨k1, ?_⟩, fun g => ⟨k1, nt, n1, ?_⟩, fun g => ⟨k1, ?_⟩, fun z4 z5 z6 z7 z8 z9 z10 z11 z12 => fl ?_⟩
  · have s4 := gs (n := 4) rfl g
    subst s4
    refine y_count (K := fun _ => R) hT (hE v ν) (hF v ν _ hv' (by omega) hl) hc hb (cnR (fun h9 => by rw [hR, pWr_4n h9]; rfl)) (fun u v' q x g1 g2 g3 g4 g5 _ _ => ?_)
    rw [rdE_at n8 n9]
    refine ⟨n2, by rw [z_in, e1, rdE_n, n3]; omega, fun h8 e8 => ?_⟩
    rw [c1, rdE_nt n8 n10] at e8
    subst e8
    obtain ⟨w1, w2⟩ := up1 u q (by omega)
    refine last v' _ q g5 g3 (by omega) w1 w2 (by omega) (rW_4i.mpr ⟨x, g1⟩) (fun ν2 y1 y2 => ⟨y2, fun _ => ?_, fun h => by omega, fun h => by omega, fun h => by omega, fun h => by omega, fun h => by omega, fun h => by omega⟩)
    rw [y1 _ (by omega), xh_up, if_pos rfl]
    exact g4
  · have s4 := gs (n := 5) rfl g
    exact fl (.inl s4)
  · have s4 := gs (n := 6) rfl g
    subst s4
    refine y_count (K := fun _ => R) hT (hE v ν) (hF v ν _ hv' (by omega) hl) hc hb (cnR (fun h9 => by rw [hR, pWr_6n h9]; rfl)) (fun u v' q x g1 g2 g3 g4 g5 _ _ => ?_)
    rw [rdE_at n8 n9]
    refine ⟨n2, by rw [z_in, e1, rdE_n, n3]; omega, fun h8 e8 => ?_⟩
    rw [c1, rdE_nt n8 n10] at e8
    subst e8
    have hz : ∀ p, (¬ ub cb p < 0 ∧ ub cb p ≤ 0) ↔ ub cb p = 0 := fun p => by
      have := ub_r (cb := cb) (p := p)
      rw [z_lt, z_le, z_eq]
      simp only [Int32.reduceToInt]
      omega
    refine y_readMark (K := fun _ => R) hT (hE _ _) (hF _ _ q g5 (by omega) g3) hc hb hby (by decide) (mrR (fun h9 => by rw [hR, pWr_6m g1 g3 (by omega), fVT_2 h9]; rfl) (fun h9 h8 => by rw [hR, pWr_6m g1 g3 (fun h7 => h8 ((hz q).mpr h7.2)), fVT_5 h9]; rfl)) (fun v'' y1 y2 y3 _ _ => ?_)
    rw [rdE_at n8 n9]
    obtain ⟨w1, w2⟩ := up1 u (q + 1) (by omega)
    refine last v'' _ (q + 1) y1 (by omega) (by omega) w1 w2 (fun _ => by omega) (rW_6i.mpr ⟨q, x, g1, y3, rfl⟩) (fun ν2 y1 y2 => ⟨y2, fun _ => ?_, fun h => by omega, fun h => by omega, fun h => by omega, fun h => by omega, fun h => by omega, fun h => by omega⟩)
    rw [y1 _ (by omega), xh_up, if_pos rfl]
    exact g4
  · have s4 := gs (n := 7) rfl g
    subst s4
    refine y_count (K := fun _ => R) hT (hE v ν) (hF v ν _ hv' (by omega) hl) hc hb (cnR (fun h9 => by rw [hR, pWr_7n h9]; rfl)) (fun u v' q x g1 g2 g3 g4 g5 _ _ => ?_)
    rw [rdE_at n8 n9]
    refine ⟨n2, by rw [z_in, e1, rdE_n, n3]; omega, fun h8 e8 => ?_⟩
    rw [c1, rdE_nt n8 n10] at e8
    subst e8
    refine ⟨nt, n1, ?_⟩
    refine y_count (K := fun _ => R) hT (hE _ _) (hF _ _ q g5 (by omega) g3) hc hb (cnR (fun h9 => by rw [hR, pWr_7m g1 g3 h9]; rfl)) (fun u2 v'' q2 x2' z1 z2 z3 z4 z5 _ _ => ?_)
    rw [rdE_at n8 n9]
    refine ⟨n2, by rw [z_in, e2, rdE_n, n3]; omega, fun h9 e9 => ?_⟩
    rw [c2, rdE_nt n8 n10] at e9
    subst e9
    refine last v'' _ q2 z5 z3 (by omega) (fun k hj => by rw [xh_up, if_neg (by omega), xh_up, if_neg (by omega)]) (fun k hj => by rw [xh_up, if_neg (by omega), xh_up, if_neg (by omega)]) (fun _ => by omega) (rW_7i.mpr ⟨q, x, x2', g1, z1⟩) (fun ν2 y1 y2 => ⟨y2, fun _ => ?_, fun h => by omega, fun _ => ?_, fun h => by omega, fun h => by omega, fun h => by omega, fun h => by omega⟩)
    · rw [y1 _ (by omega), xh_up, if_neg (by omega), xh_up, if_pos rfl]
      exact g4
    · rw [y1 _ (by omega), xh_up, if_pos rfl, (rC_E g1).1]
      exact z4
  · have s4 := gs (n := 8) rfl g
    subst s4
    have hz : ∀ p, (¬ ub cb p < 0 ∧ ub cb p ≤ 0) ↔ ub cb p = 0 := fun p => by
      have := ub_r (cb := cb) (p := p)
      rw [z_lt, z_le, z_eq]
      simp only [Int32.reduceToInt]
      omega
    refine y_readMark (K := fun _ => R) hT (hE _ _) (hF _ _ _ hv' (by omega) hl) hc hb hby (by decide) (mrR (fun h9 => by rw [hR, pWr_8n (by omega), fVT_2 h9]; rfl) (fun h9 h8 => by rw [hR, pWr_8n (fun h7 => h8 ((hz _).mpr h7.2)), fVT_5 h9]; rfl)) (fun v'' y1 y2 y3 _ _ => ?_)
    rw [rdE_at n8 n9]
    exact last v'' _ (b + j + 1 + 1) y1 (by omega) (by omega) (fun k hj => rfl) (fun k hj => rfl) (by omega) (rW_8i.mpr ⟨y3, rfl⟩) (fun ν2 y1 y2 => ⟨y2, fun h => by omega, fun h => by omega, fun h => by omega, fun h => by omega, fun h => by omega, fun h => by omega, fun h => by omega⟩)
  · have s4 := gs (n := 9) rfl g
    subst s4
    refine y_signed (n := 5) (bits := 32) hT (hE v ν) (hF v ν _ hv' (by omega) hl) hc hb (.inl ⟨rfl, rfl, rfl⟩) (fun h9 => by rw [hR, pWr_9n h9]; rfl) (fun v' q g1 g2 g3 g5 _ => ?_)
    rw [rdE_at n8 n9]
    refine ⟨n2, by rw [z_in, e1, rdE_n, n3]; omega, fun h8 e8 => ?_⟩
    rw [c1, rdE_nt n8 n10] at e8
    subst e8
    obtain ⟨w1, w2⟩ := up1 (svC cb 5 (b + j + 1) 0 0).toInt32 q (by omega)
    refine last v' _ q g5 g3 (by omega) w1 w2 (by omega) (rW_9i.mpr g1) (fun ν2 y1 y2 => ⟨y2, fun h => by omega, fun h => by omega, fun h => by omega, fun _ => ?_, fun h => by omega, fun h => by omega, fun h => by omega⟩)
    rw [y1 _ (by omega), xh_up, if_pos rfl]
  · have s4 := gs (n := 10) rfl g
    subst s4
    refine y_signed (n := 10) (bits := 64) hT (hE v ν) (hF v ν _ hv' (by omega) hl) hc hb (.inr ⟨rfl, rfl, rfl⟩) (fun h9 => by rw [hR, pWr_10n h9]; rfl) (fun v' q g1 g2 g3 g5 _ => ?_)
    rw [rdE_at n8 n9]
    refine y_noteLong hs hn h2 (by omega) (by omega) (fun ν' w1 w2 w3 w4 _ => ?_)
    refine last v' _ q g5 g3 (by omega) (fun k hk => w1 k (by omega)) (fun k hk => w2 k (by omega)) (by omega) (rW_10i.mpr g1) (fun ν2 y1 y2 => ⟨y2, fun h => by omega, fun h => by omega, fun h => by omega, fun h => by omega, fun _ => ⟨?_, fun h9 => ?_⟩, fun h => by omega, fun h => by omega⟩)
    · rw [y1 _ (by omega)]
      exact w3
    · rw [y1 _ (by omega)]
      exact w4 (by omega)
  · have s4 := gs (n := 11) rfl g
    subst s4
    refine y_plainBytes (n := 4) hT (hE v ν) (hF v ν _ hv' (by omega) hl) hc hb rfl (fun h9 => by rw [hR, pWr_11n h9]; rfl) (fun v' g5 g3 _ => ?_)
    rw [rdE_at n8 n9]
    refine ⟨n2, by rw [z_in, e1, rdE_n, n3]; omega, fun h8 e8 => ?_⟩
    rw [c1, rdE_nt n8 n10] at e8
    subst e8
    obtain ⟨w1, w2⟩ := up1 (byv cb 4 (b + j + 1) 0 0).toInt32 (b + j + 1 + 4) (by omega)
    refine last v' _ (b + j + 1 + 4) g5 g3 (by omega) w1 w2 (fun _ => by omega) (rW_11i.mpr rfl) (fun ν2 y1 y2 => ⟨y2, fun h => by omega, fun h => by omega, fun h => by omega, fun h => by omega, fun h => by omega, fun _ => ?_, fun h => by omega⟩)
    rw [y1 _ (by omega), xh_up, if_pos rfl]
  · have s4 := gs (n := 12) rfl g
    subst s4
    refine y_plainBytes (n := 8) hT (hE v ν) (hF v ν _ hv' (by omega) hl) hc hb rfl (fun h9 => by rw [hR, pWr_12n h9]; rfl) (fun v' g5 g3 _ => ?_)
    rw [rdE_at n8 n9]
    refine y_noteLong hs hn h2 (by omega) (by omega) (fun ν' w1 w2 w3 w4 _ => ?_)
    refine last v' _ (b + j + 1 + 8) g5 g3 (by omega) (fun k hk => w1 k (by omega)) (fun k hk => w2 k (by omega)) (fun _ => by omega) (rW_12i.mpr rfl) (fun ν2 y1 y2 => ⟨y2, fun h => by omega, fun h => by omega, fun h => by omega, fun h => by omega, fun h => by omega, fun h => by omega, fun _ => ⟨?_, ?_⟩⟩)
    · rw [y1 _ (by omega)]
      exact w3
    · rw [y1 _ (by omega)]
      exact w4 (by omega)
  · simp only [z_eq, h1, Int32.reduceToInt] at z4 z5 z6 z7 z8 z9 z10 z11 z12
    omega
end CR4
