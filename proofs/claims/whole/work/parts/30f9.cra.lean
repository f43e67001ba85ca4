-- equality: the class's reader, exact: a section, all sections
/-- where reading a section stands: k of so many items are read, the next one stands at p -/
def sgX {α : Type} (cA : Nat → Int32) (e s items k p : Nat) (S : Sm) (R : Except (Nat × Nat) α) (KS : Sm → Except (Nat × Nat) α) : Prop :=
  (s = 0 → items = 1 ∧ (k = 0 → R = (pNm cA e p).bind (fun _ => KS S)) ∧ (k = 1 → p = e ∧ R = KS S)) ∧
  (s = 8 → items = 1 ∧ (k = 0 → S.1 8 = 0 ∧ R = (pCx cA e p).bind (fun q => (pSf e (q, S.ad 8 p)).bind KS)) ∧ (k = 1 → R = (pSf e (p, S)).bind KS)) ∧
  (s ≠ 0 → s ≠ 8 → ∃ mf, e - p + 1 ≤ mf ∧ R = ((pEts cA e s mf (items - k) p S).bind (pSf e)).bind KS)
/-- sections behind t are not read -/
def sT (t : Nat) (S : Sm) : Prop := ∀ j, t < j → S.1 j = 0
section CRA
variable {α : Type} {h0 h : xb_H} {rd op md cd nt im N M rc rs b e : Nat} {rw : Nat → Nat} {cb cA : Nat → Int32} {it n : Nat → Nat} {vs : Nat → Nat → Int64} {ν iv : Nat → Int32} {a : Nat} {l : Int} {bc bs : Nat} {Qt : String → xb_H → Nat → Nat → Prop} {R : Except (Nat × Nat) α} {KS : Sm → Except (Nat × Nat) α} {S : Sm}
section
variable {s items k p : Nat}
theorem pSf_7 (h : p < e) : pSf e (p, S) = .error (7, p) := if_pos h
theorem pSf_o (h : ¬ p < e) : pSf e (p, S) = .ok S := if_neg h
theorem pEts_0 {m : Nat} : pEts cA e s m 0 p S = .ok (p, S) := by
  cases m <;> rfl
theorem pEts_1 {m k : Nat} : pEts cA e s (m + 1) (k + 1) p S = (pEnt cA e s p).bind (fun q => pEts cA e s m k q (S.ad s p)) := rfl
/-- the end of a section -/
theorem sgX.fin (h : sgX cA e s items k p S R KS) (hk : k = items) (hp : p ≤ e) : (p < e → R = .error (7, p)) ∧ (¬ p < e → R = KS S) := by
  obtain ⟨h1, h2, h3⟩ := h
  by_cases h0 : s = 0
  · obtain ⟨a1, a2, a3⟩ := h1 h0
    obtain ⟨a4, a5⟩ := a3 (by omega)
    exact ⟨fun h9 => by omega, fun _ => a5⟩
  · have key : R = (pSf e (p, S)).bind KS := by
      by_cases h8 : s = 8
      · obtain ⟨a1, a2, a3⟩ := h2 h8
        exact a3 (by omega)
      · obtain ⟨mf, -, hR⟩ := h3 h0 h8
        rw [hR, hk, Nat.sub_self, pEts_0]
        rfl
    exact ⟨fun h9 => by rw [key, pSf_7 h9]; rfl, fun h9 => by rw [key, pSf_o h9]; rfl⟩
/-- an entry -/
theorem sgX.ent (h : sgX cA e s items k p S R KS) (hk : k < items) (h0 : s ≠ 0) (h8 : s ≠ 8) (hp : p ≤ e) : ∃ mf, e - p ≤ mf ∧ R = (pEnt cA e s p).bind (fun q => ((pEts cA e s mf (items - (k + 1)) q (S.ad s p)).bind (pSf e)).bind KS) := by
  obtain ⟨mf, h1, h2⟩ := h.2.2 h0 h8
  obtain ⟨mf, rfl⟩ : ∃ j, mf = j + 1 := ⟨mf - 1, by omega⟩
  refine ⟨mf, by omega, ?_⟩
  rw [h2, show items - k = (items - (k + 1)) + 1 by omega, pEts_1]
  cases pEnt cA e s p <;> rfl
theorem sgX.nx {mf q : Nat} (h0 : s ≠ 0) (h8 : s ≠ 8) (hm : e - p ≤ mf) (hq : p < q) (hqe : q ≤ e) (hR : R = ((pEts cA e s mf (items - (k + 1)) q S).bind (pSf e)).bind KS) : sgX cA e s items (k + 1) q S R KS := ⟨fun h => absurd h h0, fun h => absurd h h8, fun _ _ => ⟨mf, by omega, hR⟩⟩
theorem sT.ad {t : Nat} (h : sT t S) (hs : s ≤ t) : sT t (S.ad s p) := fun j hj => by rw [ad1_o (by omega)]; exact h j hj
end
theorem gy_readSectionL {Qr : xb_H → Nat → Nat → Prop} {x1 : Int32} {x3 : Int64} {s t a0 items : Nat} (hC : cx_ cA cb b N) (he : l + b = e) (hit : x3.toInt = items) (hst : s ≤ t) (hs2 : s = 2 → t ≤ 2) (hT : rdT h0 rd op md rc rs b R Qt) (hM : 2 * N + 20 ≤ M) (hM2 : M ≤ 1000000) (hx1 : x1.toInt = s) (hs11 : s ≤ 11)
    (hQ : ∀ (h' : xb_H) (it' n' : Nat → Nat) (vs' : Nat → Nat → Int64) (ν' iv' : Nat → Int32) (q bc' bs' : Nat) (S' : Sm) (ω' : Nat → Int32), a0 ≤ q → rdg ω' h0 h' rd op md cd nt im N M rc rs rw cb it' n' vs' ν' iv' q N bc' bs' → rd_P t N cb n' vs' ν' iv' q → b + q = e → eR cA ν' b q S' n' vs' iv' (ω' 15) (ω' 16) → sT t S' → R = KS S' → Qr h' bc' bs') :
    ∀ (m : Nat) (x5 : Int64) (h : xb_H) (it n : Nat → Nat) (vs : Nat → Nat → Int64) (ν iv : Nat → Int32) (a bc bs : Nat) (ω : Nat → Int32), rdg ω h0 h rd op md cd nt im N M rc rs rw cb it n vs ν iv a l bc bs → a0 ≤ a → rd_P t N cb n vs ν iv a → l - a ≤ m → ∀ (k : Nat) (S : Sm), x5.toInt = k → k ≤ items → eR cA ν b a S n vs iv (ω 15) (ω 16) → sT t S → sgX cA e s items k (b + a) S R KS → w_Reader_readSection_L45 Qr Qt (m + 1) rd x1 x3 x5 h bc bs
  | m, x5, h, it, n, vs, ν, iv, a, bc, bs, ω, hG, ha0, ⟨hI, hq, hz⟩, hm, k, S, hx5, hki, hE, hS, hg => by
    have hal := hG.al
    have h8 := hI.ge8
    have nxt : ∀ (h' : xb_H) (it' n' : Nat → Nat) (vs' : Nat → Nat → Int64) (ν' iv' : Nat → Int32) (q bc' bs' : Nat) (S' : Sm) (ω' : Nat → Int32), a < q → rdg ω' h0 h' rd op md cd nt im N M rc rs rw cb it' n' vs' ν' iv' q l bc' bs' → rd_P t N cb n' vs' ν' iv' q → k < items → eR cA ν' b q S' n' vs' iv' (ω' 15) (ω' 16) → sT t S' → sgX cA e s items (k + 1) (b + q) S' R KS → w_Reader_readSection_L261 (w_Reader_readSection_L45 Qr Qt m) Qr Qt rd x1 x3 x5 h' bc' bs' := by
      intro h' it' n' vs' ν' iv' q bc' bs' S' ω' g1 g2 g3 gk g4 g5 g6 v1 ev1
      have evk : v1.toInt = (k + 1 : Nat) := by
        rw [ev1, Z_add, hx5]
        simp only [Int64.reduceToInt]
        have := Z_rg x3
        omega
      have hal' := g2.al
      match m, hm with
      | 0, hm => omega
      | m + 1, hm => exact gy_readSectionL hC he hit hst hs2 hT hM hM2 hx1 hs11 hQ m v1 h' it' n' vs' ν' iv' q bc' bs' ω' g2 (by omega) g3 (by omega) (k + 1) S' evk (by omega) g4 g5 g6
    have lit : ∀ k : Int32, x1 = k ↔ (s : Int) = k.toInt := fun k => by rw [z_eq, hx1]
    unfold w_Reader_readSection_L45
    have hxk : x3 ≤ x5 ↔ items ≤ k := by rw [Z_le, hit, hx5]; omega
    have hlt : xb_i h rd 4 ≤ xb_i h rd 3 ↔ ¬ b + a < e := by rw [z_le, hG.ilim, hG.iat]; omega
    refine ⟨fun hk9 => ⟨hG.krd, fun hle => ?_, fun hle => ⟨md, hG.rmd, hG.kmd, y_fail (c := 7) (w := b + a) hT hG.X hG.c hG.b ((hg.fin (by rw [hxk] at hk9; omega) (by omega)).1 (by rw [hlt] at hle; exact Classical.byContradiction hle)) rfl (by rw [hG.iat]; omega)⟩⟩, fun hk9 => ?_⟩
    rotate_left
    · rw [hxk] at hk9
      have hkl : k < items := by omega
      refine ⟨fun e => ?_, fun e => ?_, fun e => ?_, fun e => ?_, fun e => ?_, fun e => ?_, fun e => ?_, fun e => ?_, fun e => ?_, fun e => ?_, fun e => ?_, fun e0 e1 e2 e3 e4 e5 e6 e7 e8 e9 e10 => ?_⟩
      · rw [lit] at e
        simp only [Int32.reduceToInt] at e
        have h0s : s = 0 := by omega
        obtain ⟨a1, a2, a3⟩ := hg.1 h0s
        refine ⟨hG.krd, gy_readName hT hG hC he (a2 (by omega)) (fun r h' q b0 b2 b3 b4 b5 R1 hG' _ h12 e12 => ?_)⟩
        subst e12
        have el := hG'.ilim
        exact nxt _ it n vs ν iv l.toNat bc bs S ω (by omega) (hG'.at (by omega) (by omega)) ⟨(hI.at (by omega)).cl, hq, hz⟩ hkl (hE.mo (by omega) (fun _ _ => rfl)) hS ⟨fun _ => ⟨a1, fun h9 => by omega, fun _ => ⟨by omega, R1⟩⟩, fun h9 => by omega, fun h9 => absurd h0s h9⟩
      · rw [lit] at e
        simp only [Int32.reduceToInt] at e
        obtain rfl : s = 1 := by omega
        obtain ⟨mf, hmf, R0⟩ := hg.ent hkl (by omega) (by omega) (by omega)
        exact ⟨hG.krd, gy_readType hT hG hI hC he hM hM2 R0 (fun h' it' n' vs' L q bc' bs' g1 g2 g3 g4 gA gL gE R1 _ => nxt h' it' n' vs' ν iv q bc' bs' (S.ad 1 (b + a)) ω g1 g2 ⟨g3, ⟨by rw [g4 2 (by omega)]; exact hq.1, by rw [g4 3 (by omega)]; exact hq.2.1, by rw [g4 4 (by omega)]; exact hq.2.2.1, by rw [g4 5 (by omega)]; exact hq.2.2.2⟩, fun h9 => ⟨by rw [g4 2 (by omega)]; exact (hz h9).1, by rw [g4 3 (by omega)]; exact (hz h9).2.1, by rw [g4 4 (by omega)]; exact (hz h9).2.2.1, by rw [g4 5 (by omega)]; exact (hz h9).2.2.2⟩⟩ hkl ((hE.s1 gA gL gE).mo (by omega) (fun _ _ => rfl)) (hS.ad hst) (sgX.nx (by omega) (by omega) hmf (by omega) (by have := g2.al; omega) R1))⟩
      · rw [lit] at e
        simp only [Int32.reduceToInt] at e
        obtain rfl : s = 2 := by omega
        obtain ⟨mf, hmf, R0⟩ := hg.ent hkl (by omega) (by omega) (by omega)
        have ht2 := hs2 rfl
        exact ⟨hG.krd, gy_readImport hT hG hI (hz ht2) hC he hM hM2 R0 (fun h' it' n' vs' iv' q bc' bs' g1 g2 g3 g4 ⟨κ0, n1, vs1, L1, L2, j1, j2, j3, j4, j5, j6, j7, j8, j9, j10⟩ R1 _ => nxt h' it' n' vs' ν iv' q bc' bs' (S.ad 2 (b + a)) ω g1 g2 ⟨g3, g4.q, fun _ => g4⟩ hkl ((hE.s2 (fun κ _ => hS (3 + κ) (by omega)) j1 j2 j3 j4 j5 j6 j7 j8 j9 j10).mo (by omega) (fun _ _ => rfl)) (hS.ad hst) (sgX.nx (by omega) (by omega) hmf (by omega) (by have := g2.al; omega) R1))⟩
      · rw [lit] at e
        simp only [Int32.reduceToInt] at e
        obtain rfl : s = 3 := by omega
        obtain ⟨mf, hmf, R0⟩ := hg.ent hkl (by omega) (by omega) (by omega)
        have hn2 := hI.nk (k := 2) (by omega)
        refine ⟨hG.krd, md, hG.rmd, hG.kmd, rw 2, hG.row (by omega), hG.krow (by omega), hG.addA (by omega) (xr_A.rf 2 n vs) (by simp; omega) hM2 (fun h1 it1 n1 vs1 bc1 bs1 hG1 hA1 _ => ?_)⟩
        refine ⟨md, hG1.rmd, hG1.kmd, rw 2, hG1.row (by omega), gy_count hT hG1 hC he R0 (fun r33 h2 q2 b1 b2 b3 b4 b5 R1 hG2 _ => ⟨hG2.krow (by omega), hG2.addA (by omega) hA1 (by simp; omega) hM2 (fun h3 it3 n3 vs3 bc3 bs3 hG3 hA3 _ => ?_)⟩)⟩
        refine nxt h3 it3 n3 vs3 ν iv q2 bc3 bs3 (S.ad 3 (b + a)) ω (by omega) hG3 ⟨((hI.at (a' := q2) (by omega)).a2 hA3 (by simp) (by omega) ?_).cl, hq.up (fun j => ?_), fun h9 => by omega⟩ hkl ((hE.s3 hA3 (by simp [imL]) ⟨fun _ => ?_, fun h => by omega, fun h => by omega, fun h => by omega⟩).mo (by omega) (fun _ _ => rfl)) (hS.ad hst) (sgX.nx (by omega) (by omega) hmf (by omega) (by have := hG3.al; omega) R1)
        · unfold mp2
          simp only [List.nil_append, List.cons_append, List.getD_cons_zero, List.getD_cons_succ, Z_of32, Z_low, hG.iat]
          exact ⟨by omega, by omega, by omega, by omega⟩
        · by_cases e : j = 2
          · rw [e, hA3.1]
            omega
          · rw [(hA3.2.1 j e).1]
            omega
        · simp only [List.nil_append, List.cons_append, List.getD_cons_zero, List.getD_cons_succ, Z_of32, hG.iat]
          rw [u64 b4]
          exact ⟨by omega, rfl⟩
      · rw [lit] at e
        simp only [Int32.reduceToInt] at e
        obtain rfl : s = 4 := by omega
        obtain ⟨mf, hmf, R0⟩ := hg.ent hkl (by omega) (by omega) (by omega)
        exact ⟨hG.krd, gy_readTable hT hG hI hC he hM hM2 R0 (fun h' it' n' vs' L q bc' bs' g1 g2 g3 g4 gA gL gE R1 _ => nxt h' it' n' vs' ν iv q bc' bs' (S.ad 4 (b + a)) ω g1 g2 ⟨g3, hq.up g4, fun h9 => by omega⟩ hkl ((hE.s4 gA gL ⟨fun h => by omega, fun _ => gE, fun h => by omega, fun h => by omega⟩).mo (by omega) (fun _ _ => rfl)) (hS.ad hst) (sgX.nx (by omega) (by omega) hmf (by omega) (by have := g2.al; omega) R1))⟩
      · rw [lit] at e
        simp only [Int32.reduceToInt] at e
        obtain rfl : s = 5 := by omega
        obtain ⟨mf, hmf, R0⟩ := hg.ent hkl (by omega) (by omega) (by omega)
        have hn4 := hI.nk (k := 4) (by omega)
        by_cases haN : a < N
        · refine ⟨hG.krd, md, hG.rmd, hG.kmd, rw 4, hG.row (by omega), gy_readLimits (p := a) hT hG hC he (by omega) (by omega) hM2 hG.iat haN R0 (fun h' it' n' vs' q bc' bs' L c1 c2 hG4 hA hL hp gE R1 _ => ?_)⟩
          refine nxt h' it' n' vs' ν iv q bc' bs' (S.ad 5 (b + a)) ω (by omega) hG4 ⟨((hI.at (a' := q) (by omega)).a4 hA hL (by omega) (hp _)).cl, hq.up (fun j => ?_), fun h9 => by omega⟩ hkl ((hE.s5 hA hL ⟨fun h => by omega, fun h => by omega, fun _ => gE, fun h => by omega⟩).mo (by omega) (fun _ _ => rfl)) (hS.ad hst) (sgX.nx (by omega) (by omega) hmf (by omega) (by have := hG4.al; omega) R1)
          by_cases e : j = 4
          · rw [e, hA.1]
            omega
          · rw [(hA.2.1 j e).1]
            omega
        · refine ⟨hG.krd, md, hG.rmd, hG.kmd, rw 4, hG.row (by omega), ?_⟩
          unfold w_Reader_readLimits
          exact ⟨hG.krd, gy_byteUpTo (K := fun _ => R) hT hG hC he (mrR (fun h9 => by rw [R0]; show ((pW cA _ 0 1 (b + a)).bind _).bind _ = _; rw [pW_2 h9]; rfl) (fun h9 _ => by omega)) (fun h2 b2 b3 _ hG2 _ => by omega)⟩
      · rw [lit] at e
        simp only [Int32.reduceToInt] at e
        obtain rfl : s = 6 := by omega
        obtain ⟨mf, hmf, R0⟩ := hg.ent hkl (by omega) (by omega) (by omega)
        exact ⟨hG.krd, gy_readVariable hT hG hI hC he hq.2.2.2 hM hM2 R0 (fun h' it' n' vs' ν' L q bc' bs' g1 g2 g3 g4 gA gL gE gν gW R1 _ => nxt h' it' n' vs' ν' iv q bc' bs' (S.ad 6 (b + a)) ω g1 g2 ⟨g3, hq.up g4, fun h9 => by omega⟩ hkl ((hE.mo (a' := q) (by omega) gν).s6 gA gL ⟨fun h => by omega, fun h => by omega, fun h => by omega, fun _ => gE⟩ ⟨b + q, by omega, by omega, gW⟩) (hS.ad hst) (sgX.nx (by omega) (by omega) hmf (by omega) (by have := g2.al; omega) R1))⟩
      · rw [lit] at e
        simp only [Int32.reduceToInt] at e
        obtain rfl : s = 7 := by omega
        obtain ⟨mf, hmf, R0⟩ := hg.ent hkl (by omega) (by omega) (by omega)
        exact ⟨hG.krd, gy_readExport hT hG hI hC he hM hM2 R0 (fun h' it' n' vs' L q bc' bs' g1 g2 g3 g4 gA gL gE R1 _ => nxt h' it' n' vs' ν iv q bc' bs' (S.ad 7 (b + a)) ω g1 g2 ⟨g3, hq.up g4, fun h9 => by omega⟩ hkl ((hE.s7 gA gL gE).mo (by omega) (fun _ _ => rfl)) (hS.ad hst) (sgX.nx (by omega) (by omega) hmf (by omega) (by have := g2.al; omega) R1))⟩
      · rw [lit] at e
        simp only [Int32.reduceToInt] at e
        obtain rfl : s = 8 := by omega
        obtain ⟨a1, a2, a3⟩ := hg.2.1 rfl
        obtain ⟨a4, a5⟩ := a2 (by omega)
        refine ⟨hG.krd, md, hG.rmd, hG.kmd, fun h60 e60 => ?_⟩
        subst e60
        have hrd3 : (va_up ω 16 (xb_i h rd 3) 16).toInt = a := by rw [xh_up, if_pos rfl]; exact hG.iat
        have hG1 := hG.mdI (k := 16) (v := xb_i h rd 3) (fun h9 => by omega)
        refine ⟨md, hG1.rmd, gy_count hT hG1 hC he a5 (fun r63 h64 q63 f1 f2 f3 f4 f5 R1 hG2 _ => ?_)⟩
        refine ⟨hG2.kmd, fun h65 e65 => ?_⟩
        subst e65
        have hG3 := hG2.mdI (k := 15) (v := r63) (fun h9 => by rw [xh_up, if_neg (by omega), hrd3] at h9; omega)
        refine nxt _ it n vs ν iv q63 bc bs (S.ad 8 (b + a)) _ (by omega) hG3 ⟨(hI.at (by omega)).cl, hq, hz⟩ hkl ?_ (hS.ad hst) ⟨fun h9 => by omega, fun _ => ⟨a1, fun h9 => by omega, fun _ => R1⟩, fun _ h9 => absurd rfl h9⟩
        have e15 : va_up (va_up ω 16 (xb_i h rd 3)) 15 r63 15 = r63 := by rw [xh_up, if_pos rfl]
        have e16 : va_up (va_up ω 16 (xb_i h rd 3)) 15 r63 16 = xb_i h rd 3 := by rw [xh_up, if_neg (by decide), xh_up, if_pos rfl]
        rw [e15, e16]
        exact (hE.s8 a4 (by rw [hG.iat]; omega) f4).mo (by omega) (fun _ _ => rfl)
      · rw [lit] at e
        simp only [Int32.reduceToInt] at e
        obtain rfl : s = 9 := by omega
        obtain ⟨mf, hmf, R0⟩ := hg.ent hkl (by omega) (by omega) (by omega)
        exact ⟨hG.krd, gy_readElements hT hG hI hC he hM hM2 R0 (fun h' it' n' vs' ν' q bc' bs' E g1 g2 g3 g4 gν g7 g8 gO k7 k8 gW gl gs R1 _ => nxt h' it' n' vs' ν' iv q bc' bs' (S.ad 9 (b + a)) ω g1 g2 ⟨g3, hq.up g4, fun h9 => by omega⟩ hkl ((hE.mo (a' := q) (by omega) gν).s9 g7 g8 gO k7 k8 gW gl gs) (hS.ad hst) (sgX.nx (by omega) (by omega) hmf (by omega) (by have := g2.al; omega) R1))⟩
      · rw [lit] at e
        simp only [Int32.reduceToInt] at e
        obtain rfl : s = 10 := by omega
        obtain ⟨mf, hmf, R0⟩ := hg.ent hkl (by omega) (by omega) (by omega)
        exact ⟨hG.krd, gy_readBody hT hG hI hC he hM hM2 R0 (fun h' it' n' vs' ν' q bc' bs' g1 g2 g3 g4 gν g9 g10 gO k9 k10 gq gW gl gs R1 _ => nxt h' it' n' vs' ν' iv q bc' bs' (S.ad 10 (b + a)) ω g1 g2 ⟨g3, hq.up g4, fun h9 => by omega⟩ hkl ((hE.mo (a' := q) (by omega) gν).s10 g9 g10 gO k9 k10 hI.d.2.1 gW gl gs) (hS.ad hst) (sgX.nx (by omega) (by omega) hmf (by omega) (by have := g2.al; omega) R1))⟩
      · rw [lit] at e0 e1 e2
        simp only [Int32.reduceToInt] at e0 e1 e2
        rw [lit] at e3 e4 e5 e6 e7 e8 e9 e10
        simp only [Int32.reduceToInt] at e3 e4 e5 e6 e7 e8 e9 e10
        obtain rfl : s = 11 := by omega
        obtain ⟨mf, hmf, R0⟩ := hg.ent hkl (by omega) (by omega) (by omega)
        exact ⟨hG.krd, gy_readData hT hG hI hC he hM hM2 R0 (fun h' it' n' vs' ν' L q bc' bs' g1 g2 g3 g4 gA gL gν ⟨E0, E1, E2, E, EW, E3, E4⟩ R1 _ => nxt h' it' n' vs' ν' iv q bc' bs' (S.ad 11 (b + a)) ω g1 g2 ⟨g3, hq.up g4, fun h9 => by omega⟩ hkl ((hE.mo (a' := q) (by omega) gν).s11 gA gL ⟨E, EW, E0, E1, E2, E3, E4⟩) (hS.ad hst) (sgX.nx (by omega) (by omega) hmf (by omega) (by have := g2.al; omega) R1))⟩
    · unfold w_Reader_readSection_L294
      refine ⟨hG.krd, cd, hG.cdr.1, hG.cdr.2.1, fun h4 e4 => ?_⟩
      subst e4
      rw [hG.cdr.2.2]
      have hN := z_nI (n := N) (by omega)
      have hG4 := hG.lim (v := nI N) (by omega) (by omega)
      rw [hN] at hG4
      rw [hlt] at hle
      exact hQ _ it n vs ν iv a bc bs S ω ha0 hG4 ⟨hI, hq, hz⟩ (by omega) hE hS ((hg.fin (by rw [hxk] at hk9; omega) (by omega)).2 hle)
theorem gy_readSection {Qr : xb_H → Nat → Nat → Prop} {x1 : Int32} {ω : Nat → Int32} {s t : Nat} (hC : cx_ cA cb b N) (he : l + b = e) (hst : s ≤ t) (hs2 : s = 2 → t ≤ 2) (hT : rdT h0 rd op md rc rs b R Qt) (hG : rdg ω h0 h rd op md cd nt im N M rc rs rw cb it n vs ν iv a l bc bs) (hP : rd_P t N cb n vs ν iv a) (hM : 2 * N + 20 ≤ M) (hM2 : M ≤ 1000000) (hx1 : x1.toInt = s) (hs11 : s ≤ 11) (hE : eR cA ν b a S n vs iv (ω 15) (ω 16)) (hS : sT t S) (h80 : s = 8 → S.1 8 = 0) (hR : R = (pCx cA e (b + a)).bind (fun p2 => (if e < p2 + cV cA (b + a) then (Except.error (2, e) : Except (Nat × Nat) Sm) else pSec cA (p2 + cV cA (b + a)) s p2 S).bind KS))
    (hQ : ∀ (h' : xb_H) (it' n' : Nat → Nat) (vs' : Nat → Nat → Int64) (ν' iv' : Nat → Int32) (q bc' bs' : Nat) (S' : Sm) (ω' : Nat → Int32), a < q → rdg ω' h0 h' rd op md cd nt im N M rc rs rw cb it' n' vs' ν' iv' q N bc' bs' → rd_P t N cb n' vs' ν' iv' q → b + q = cE cA (b + a) + cV cA (b + a) → b + q ≤ e → eR cA ν' b q S' n' vs' iv' (ω' 15) (ω' 16) → sT t S' → R = KS S' → Qr h' bc' bs') : w_Reader_readSection rd x1 h bc bs Qr Qt := by
  unfold w_Reader_readSection
  have hal := hG.al
  obtain ⟨hI, hq, hz⟩ := hP
  refine ⟨hG.krd, gy_count hT hG hC he hR (fun r3 h2 q2 b1 b2 b3 b4 b5 R1 hG2 _ => y_limitTo hT hG2.X (hG2.q hC he) hG2.c hG2.b b4 (fun h9 => by rw [R1, if_pos h9]; rfl) (fun v c1 c3 _ => ?_))⟩
  have R2 : R = (pSec cA (b + q2 + cV cA (b + a)) s (b + q2) S).bind KS := by rw [R1, if_neg (by omega)]
  have hG4 := hG2.lim (v := v) (by omega) (by omega)
  obtain ⟨h4, e4⟩ : ∃ h4, h4 = xb_I h2 rd 4 v := ⟨_, rfl⟩
  rw [← e4] at hG4 ⊢
  have he4 : v.toInt + b = (b + q2 + cV cA (b + a) : Nat) := c1
  have L41 : ∀ (y : Int64) (h5 : xb_H) (q items : Nat), q2 ≤ q → rdg ω h0 h5 rd op md cd nt im N M rc rs rw cb it n vs ν iv q v.toInt bc bs → y.toInt = items → sgX cA (b + q2 + cV cA (b + a)) s items 0 (b + q) S R KS → w_Reader_readSection_L41 Qr Qt rd x1 y h5 bc bs := by
    intro y h5 q items g1 g2 g3 g4
    unfold w_Reader_readSection_L41
    exact ⟨(v.toInt - q).toNat + 1, gy_readSectionL (a0 := a + 1) hC he4 g3 hst hs2 hT hM hM2 hx1 hs11 (fun h' it' n' vs' ν' iv' q' bc' bs' S' ω' f1 f2 f3 f4 f5 f6 f7 => hQ h' it' n' vs' ν' iv' q' bc' bs' S' ω' (by omega) f2 f3 (by rw [b3]; exact f4) (by omega) f5 f6 f7) _ 0 h5 it n vs ν iv q bc bs ω g2 (by omega) ⟨(hI.at (by omega)).cl, hq, hz⟩ (by omega) 0 S rfl (by omega) (hE.mo (by omega) (fun _ _ => rfl)) hS g4⟩
  have lit : ∀ k : Int32, x1 = k ↔ (s : Int) = k.toInt := fun k => by rw [z_eq, hx1]
  unfold w_Reader_readSection_L22
  unfold w_Reader_readSection_L23
  refine ⟨fun e => ⟨fun _ => L41 1 h4 q2 1 (Nat.le_refl q2) hG4 rfl ⟨fun _ => ⟨rfl, fun _ => ?_, fun h9 => by omega⟩, fun h9 => ?_, fun h9 => ?_⟩, fun h9 => absurd rfl h9⟩, fun e => ⟨fun e8 => ⟨fun _ => L41 1 h4 q2 1 (Nat.le_refl q2) hG4 rfl ⟨fun h9 => ?_, fun h9 => ⟨rfl, fun _ => ⟨h80 h9, ?_⟩, fun h8 => by omega⟩, fun _ h9 => ?_⟩, fun h9 => absurd rfl h9⟩, fun e8 => ⟨fun h9 => absurd h9 (by decide), fun _ => ⟨hG4.krd, ?_⟩⟩⟩⟩
  · rw [lit] at e
    simp only [Int32.reduceToInt] at e
    rw [R2, show s = 0 by omega]
    show ((pNm cA _ _).bind _).bind KS = _
    rw [exA]
    rfl
  · rw [lit] at e
    simp only [Int32.reduceToInt] at e
    omega
  · rw [lit] at e
    simp only [Int32.reduceToInt] at e
    omega
  · rw [lit] at e8
    simp only [Int32.reduceToInt] at e8
    omega
  · rw [R2, h9]
    show ((pCx cA _ _).bind _).bind KS = _
    rw [exA]
  · rw [lit] at e8
    simp only [Int32.reduceToInt] at e8
    omega
  · rw [lit] at e e8
    simp only [Int32.reduceToInt] at e e8
    have R3 : R = (pCx cA (b + q2 + cV cA (b + a)) (b + q2)).bind (fun p1 => ((pEts cA (b + q2 + cV cA (b + a)) s (b + q2 + cV cA (b + a) - p1 + 2) (cV cA (b + q2)) p1 S).bind (pSf (b + q2 + cV cA (b + a)))).bind KS) := by
      rw [R2]
      unfold pSec
      rw [if_neg (by omega), if_neg (by omega), exA]
    exact gy_count hT hG4 hC he4 R3 (fun r4 h5 q5 d1 d2 d3 d4 d5 R4 hG5 _ => L41 _ h5 q5 _ (by omega) hG5 (u64 d4) ⟨fun h9 => by omega, fun h9 => by omega, fun _ _ => ⟨_, by omega, R4⟩⟩)
theorem gy_readAllL {Qr : xb_H → Nat → Nat → Prop} (hC : cx_ cA cb b N) (hT : rdT h0 rd op md rc rs b R Qt) (hM : 2 * N + 20 ≤ M) (hM2 : M ≤ 1000000)
    (hQ : ∀ (h' : xb_H) (it' n' : Nat → Nat) (vs' : Nat → Nat → Int64) (ν' iv' : Nat → Int32) (q bc' bs' : Nat) (S' : Sm) (ω' : Nat → Int32), rdg ω' h0 h' rd op md cd nt im N M rc rs rw cb it' n' vs' ν' iv' q N bc' bs' → md_D N cb n' vs' ν' iv' → eR cA ν' b N S' n' vs' iv' (ω' 15) (ω' 16) → S'.1 10 = S'.1 3 → R = KS S' → Qr h' bc' bs') :
    ∀ (m : Nat) (x2 x3 : Int32) (h : xb_H) (it n : Nat → Nat) (vs : Nat → Nat → Int64) (ν iv : Nat → Int32) (a bc bs : Nat) (S : Sm) (ω : Nat → Int32), rdg ω h0 h rd op md cd nt im N M rc rs rw cb it n vs ν iv a N bc bs → 0 ≤ x2.toInt → 0 ≤ x3.toInt → x3.toInt + 8 ≤ a → rd_P x2.toInt.toNat N cb n vs ν iv a → N - x3.toInt ≤ m → eR cA ν b a S n vs iv (ω 15) (ω 16) → sT x2.toInt.toNat S → (∃ mf, N - a + 1 ≤ mf ∧ R = (pML cA (b + N) mf (b + a) x2.toInt.toNat S).bind KS) → w_Reader_readAll_L90 Qr Qt (m + 1) rd x2 x3 h bc bs
  | m, x2, x3, h, it, n, vs, ν, iv, a, bc, bs, S, ω, hG, hx2, hx3, hxa, ⟨hI, hq, hz⟩, hm, hE, hS, ⟨mf, hmf, hR⟩ => by
    obtain ⟨mf, rfl⟩ : ∃ k, mf = k + 1 := ⟨mf - 1, by omega⟩
    have hal := hG.al
    have hNI := z_nI (n := N) (by omega)
    have hr9 : xr_row h (rw 9) 5 (n 9) (it 9) := hG.rowOk (k := 9) (by omega)
    have hr2 : xr_row h (rw 2) 2 (n 2) (it 2) := hG.rowOk (k := 2) (by omega)
    obtain ⟨-, -, ⟨m9, hm9⟩, ⟨m2, hm2⟩⟩ := hI.d
    have him := hG.1.2.2.2.2.2.2.1
    have heN : (N : Int) + b = (b + N : Nat) := by omega
    have hiv0 : 0 ≤ (iv 0).toInt := by
      have := hI.cnt 0 (by omega)
      omega
    have RF : (a : Int) = N → R = (if S.1 10 = S.1 3 then (Except.ok S : Except (Nat × Nat) Sm) else .error (8, b + N)).bind KS := fun ha => by
      rw [hR]
      conv => lhs; unfold pML
      rw [if_pos (by omega)]
      rfl
    have cl : ∀ r7 r13 : Int32, r7.toInt = (n 9 / 5 : Nat) → r13.toInt = (n 2 / 2 : Nat) → (r7 = r13 - xb_i h im 0 ↔ S.1 10 = S.1 3) := fun r7 r13 e7 e13 => by
      have e9 := hE.2.2.2.2.2.2.2.1.1
      have e2 := (hE.2.2.1 0 (by decide)).1
      have e0 := hE.2.2.2.1 0 (by decide)
      have hn9 := hI.nk (k := 9) (by omega)
      have hn2 := hI.nk (k := 2) (by omega)
      have hi2 : imL 0 = 2 := rfl
      rw [hi2] at e2
      simp only [Nat.add_zero] at e2
      rw [z_eq, e7, z_sub, e13, him.2.2.2.2]
      omega
    have fin : (a : Int) = N → w_Reader_readAll_L198 Qr Qt rd h bc bs := by
      intro ha
      unfold w_Reader_readAll_L198 w_Reader_readAll_L245
      refine ⟨hG.krd, md, hG.rmd, hG.kmd, rw 9, hG.row (by omega), hG.krow (by omega), sp_Row_lines hr9 (by omega) (fun r7 e7 _ => ⟨md, hG.rmd, hG.kmd, rw 2, hG.row (by omega), hG.krow (by omega), sp_Row_lines hr2 (by omega) (fun r13 e13 _ => ⟨md, hG.rmd, hG.kmd, im, him.1, him.2.1, by rw [him.2.2.1, z_in]; decide, fun e => ?_, fun e => ⟨md, hG.rmd, cd, hG.cdr.1, hG.cdr.2.1, hG.kmd, y_fail (c := 8) (w := b + N) hT hG.X hG.c hG.b ?_ rfl (by rw [hG.cdr.2.2, hNI]; omega)⟩⟩)⟩)⟩
      rotate_left
      · rw [RF ha, if_neg (fun h9 => e ((cl r7 r13 e7 e13).mpr h9))]
        rfl
      have hn2 := hI.nk (k := 2) (by omega)
      have haN : a = N := by omega
      subst haN
      have e310 := (cl r7 r13 e7 e13).mp e
      refine hQ h it n vs ν iv a bc bs S ω hG ⟨hI, hq, ?_⟩ hE e310 (by rw [RF ha, if_pos e310]; rfl)
      rw [z_eq, e7, z_sub, e13, him.2.2.2.2] at e
      have hq0 := hq.1
      rw [hm9, hm2] at *
      rw [Nat.mul_div_cancel_left m9 (by omega), Nat.mul_div_cancel_left m2 (by omega)] at e
      omega
    unfold w_Reader_readAll_L90
    refine ⟨hG.krd, cd, hG.cdr.1, hG.cdr.2.1, fun e => ?_, fun e => ⟨cd, hG.cdr.1, hG.cdr.2.1, fun e1 => ?_, fun e1 => ?_⟩⟩
    · rw [hG.cdr.2.2, z_le, hNI] at e
      omega
    · rw [hG.cdr.2.2, z_le, hNI, hG.iat] at e1
      exact fin (by omega)
    · rw [hG.cdr.2.2, z_le, hNI] at e
      rw [hG.cdr.2.2, z_le, hNI, hG.iat] at e1
      refine ⟨cd, hG.cdr.1, hG.cdr.2.1, by rw [z_in, hG.iat, hG.cdr.2.2]; omega, fun v11 e11 => ?_⟩
      have h11 : 0 ≤ v11.toInt ∧ v11.toInt < 256 := by rw [e11, z_255]; omega
      have haN : a < N := by omega
      have eub : v11 = ub cA (b + a) := by
        rw [e11, z_cl, hG.iat, Int.toNat_natCast, hG.icd, hC.1 a haN]
        rfl
      have RK : R = (if 11 < v11.toInt.toNat then (Except.error (5, b + a) : Except (Nat × Nat) Sm) else if v11.toInt.toNat ≠ 0 ∧ v11.toInt.toNat ≤ x2.toInt.toNat then .error (6, b + a) else (pCx cA (b + N) (b + a + 1)).bind (fun p2 => if b + N < p2 + cV cA (b + a + 1) then .error (2, b + N) else (pSec cA (p2 + cV cA (b + a + 1)) v11.toInt.toNat p2 S).bind (pML cA (b + N) mf (p2 + cV cA (b + a + 1)) (if v11.toInt.toNat = 0 then x2.toInt.toNat else v11.toInt.toNat)))).bind KS := by
        rw [hR]
        conv => lhs; unfold pML
        rw [if_neg (by omega), ← eub]
      have L169 : v11.toInt ≤ 11 → (v11.toInt = 0 ∨ x2.toInt < v11.toInt) → w_Reader_readAll_L169 (w_Reader_readAll_L90 Qr Qt m) Qr Qt rd x2 x3 v11 h bc bs := by
        intro h11' hv
        unfold w_Reader_readAll_L169
        refine fun v1 e1 => ⟨hG.krd, fun h3 e3 => ?_⟩
        subst e3
        have ev1 : v1.toInt = max x2.toInt v11.toInt := by
          rw [e1]
          split <;> (rename_i h9; rw [z_lt] at h9; omega)
        have eat : (xb_i h rd 3 + 1).toInt = (a + 1 : Nat) := by rw [z_add, hG.iat]; simp only [Int32.reduceToInt]; omega
        have RS0 : R = (pCx cA (b + N) (b + (a + 1))).bind (fun p2 => (if b + N < p2 + cV cA (b + (a + 1)) then (Except.error (2, b + N) : Except (Nat × Nat) Sm) else pSec cA (p2 + cV cA (b + (a + 1))) v11.toInt.toNat p2 S).bind (fun S' => (pML cA (b + N) mf (cE cA (b + (a + 1)) + cV cA (b + (a + 1))) v1.toInt.toNat S').bind KS)) := by
          rw [RK, if_neg (by omega), if_neg (by omega), show b + (a + 1) = b + a + 1 by omega, exA]
          by_cases hq9 : ∃ q x, rC cA (b + a + 1) = some (q, x) ∧ q ≤ b + N
          · obtain ⟨q9, x9, h8, h9⟩ := hq9
            rw [pCx_s h8 h9, (rC_E h8).1]
            show Except.bind (if _ then _ else _) KS = Except.bind (if _ then _ else _) _
            split
            · rfl
            · rw [exA]
              congr 1
              funext S'
              rw [show (if v11.toInt.toNat = 0 then x2.toInt.toNat else v11.toInt.toNat) = v1.toInt.toNat by split <;> omega]
          · rw [pCx_n hq9]
            rfl
        refine gy_readSection (s := v11.toInt.toNat) (t := v1.toInt.toNat) hC heN (by omega) (by omega) hT (hG.at eat (by omega)) ⟨(hI.at (by omega)).cl, hq, fun h9 => hz (by omega)⟩ hM hM2 (by omega) (by omega) (hE.mo (by omega) (fun _ _ => rfl)) (fun j hj => hS j (by omega)) (fun h8 => hS 8 (by omega)) RS0 (fun h' it' n' vs' ν' iv' q bc' bs' S' ω' g1 g2 g3 g4 g5 g6 g7 g8 _ => ?_)
        have e31 : (x3 + 1).toInt = x3.toInt + 1 := by rw [z_add]; simp only [Int32.reduceToInt]; omega
        have hal' := g2.al
        obtain ⟨g31, g32, g33⟩ := g3
        match m, hm with
        | 0, hm => omega
        | m + 1, hm => exact gy_readAllL hC hT hM hM2 hQ m v1 (x3 + 1) h' it' n' vs' ν' iv' q bc' bs' S' ω' g2 (by omega) (by omega) (by omega) ⟨g31, g32, fun h9 => g33 (by omega)⟩ (by omega) g6 g7 ⟨mf, by omega, by rw [g4]; exact g8⟩
      unfold w_Reader_readAll_L145
      have l11 : v11 ≤ 11 ↔ v11.toInt ≤ 11 := by rw [z_le]; rfl
      have l0 : v11 = 0 ↔ v11.toInt = 0 := by rw [z_eq]; rfl
      have lx : x2 < v11 ↔ x2.toInt < v11.toInt := by rw [z_lt]
      rw [l11, l0, lx]
      exact ⟨fun e2 => ⟨fun e3 => L169 e2 (.inl e3), fun e3 => ⟨fun e4 => L169 e2 (.inr e4), fun e4 => ⟨hG.krd, md, hG.rmd, hG.kmd, y_fail (c := 6) (w := b + a) hT hG.X hG.c hG.b (by rw [RK, if_neg (by omega), if_pos (by omega)]; rfl) rfl (by rw [hG.iat]; omega)⟩⟩⟩, fun e2 => ⟨md, hG.rmd, hG.kmd, y_fail (c := 5) (w := b + a) hT hG.X hG.c hG.b (by rw [RK, if_pos (by omega)]; rfl) rfl (by rw [hG.iat]; omega)⟩⟩
end CRA
