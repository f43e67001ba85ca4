-- a run: it is begun, its arguments are taken
/-- an argument, cut to its type -/
def arV (τ : Int) (v : Int64) : Int64 := if τ = 127 ∨ τ = 125 then v &&& 4294967295 else v
theorem arV_vr {τ : Int} {v : Int64} : vr τ (arV τ v) := by
  unfold arV
  split
  · exact vr_low
  · rename_i h9
    exact vr_no (fun e => h9 (.inl e)) (fun e => h9 (.inr e))
section TA1
variable {own own' own1 ad ad' ad1 : Nat → Nat} {h h' h1 : xb_H} {W : wD} {σ : Nat}
theorem mc_begin {x1 : Int32} {Qr : xb_H → Prop} (hB : cB own ad h) (hQ : ∀ h' : xb_H, stp [15] [] own ad own ad h h' → (xb_i h' (ad 15) 3).toInt = 1 → (xb_i h' (ad 15) 4).toInt = 0 → xb_i h' (ad 15) 8 = x1 → (xb_i h' (ad 15) 10).toInt = 0 → (∀ k, k ≠ 3 → k ≠ 8 → k ≠ 4 → k ≠ 10 → xb_i h' (ad 15) k = xb_i h (ad 15) k) → xb_l h' = xb_l h → Qr h') : w_Machine_begin (ad 15) x1 h Qr := by
  unfold w_Machine_begin
  refine ⟨hB.k 15 (by omega), fun h2 e2 h3 e3 h4 e4 h5 e5 => ?_⟩
  have s2 : stp [15] [] own ad own ad h h2 := by rw [e2]; exact stp.Ic hB
  have s3 : stp [15] [] own ad own ad h2 h3 := by rw [e3]; exact stp.Ic s2.1
  have s4 : stp [15] [] own ad own ad h3 h4 := by rw [e4]; exact stp.Ic s3.1
  have s5 : stp [15] [] own ad own ad h4 h5 := by rw [e5]; exact stp.Ic s4.1
  have i5 : xb_i h5 (ad 15) = va_up (va_up (va_up (va_up (xb_i h (ad 15)) 3 1) 8 x1) 4 0) 10 0 := by rw [e5, xh_iI, if_pos rfl, e4, xh_iI, if_pos rfl, e3, xh_iI, if_pos rfl, e2, xh_iI, if_pos rfl]
  refine hQ h5 ((((s2.tr s3).tr s4).tr s5).mono (by decide) (fun k hk => by simpa using hk)) ?_ ?_ ?_ ?_ (fun k h3 h8 h4 h10 => ?_) (by rw [e5, xh_lI, e4, xh_lI, e3, xh_lI, e2, xh_lI])
  rotate_left 4
  · rw [i5, xh_up, if_neg h10, xh_up, if_neg h4, xh_up, if_neg h8, xh_up, if_neg h3]
  · rw [i5, xh_up, if_neg (by omega), xh_up, if_neg (by omega), xh_up, if_neg (by omega), xh_up, if_pos rfl]
    rfl
  · rw [i5, xh_up, if_neg (by omega), xh_up, if_pos rfl]
    rfl
  · rw [i5, xh_up, if_neg (by omega), xh_up, if_neg (by omega), xh_up, if_pos rfl]
  · rw [i5, xh_up, if_pos rfl]
    rfl
theorem mc_giveUp {Qr : Int32 → xb_H → Prop} (hB : cB own ad h) (hQ : ∀ (h' : xb_H), stp [15] [] own ad own ad h h' → (xb_i h' (ad 15) 3).toInt = 0 → (xb_i h' (ad 15) 4).toInt = 0 → (∀ k, k ≠ 3 → k ≠ 4 → xb_i h' (ad 15) k = xb_i h (ad 15) k) → xb_l h' = xb_l h → Qr (xb_i h (ad 15) 4) h') : w_Machine_giveUp (ad 15) h Qr := by
  unfold w_Machine_giveUp
  refine ⟨hB.k 15 (by omega), fun v2 e2 h3 e3 h4 e4 => ?_⟩
  have s3 : stp [15] [] own ad own ad h h3 := by rw [e3]; exact stp.Ic hB
  have s4 : stp [15] [] own ad own ad h3 h4 := by rw [e4]; exact stp.Ic s3.1
  have i4 : xb_i h4 (ad 15) = va_up (va_up (xb_i h (ad 15)) 3 0) 4 0 := by rw [e4, xh_iI, if_pos rfl, e3, xh_iI, if_pos rfl]
  rw [e2]
  refine hQ h4 ((s3.tr s4).mono (by decide) (fun k hk => by simpa using hk)) ?_ ?_ (fun k h3 h4 => by rw [i4, xh_up, if_neg h4, xh_up, if_neg h3]) (by rw [e4, xh_lI, e3, xh_lI])
  · rw [i4, xh_up, if_neg (by omega), xh_up, if_pos rfl]
    rfl
  · rw [i4, xh_up, if_pos rfl]
    rfl
theorem mc_takeArguments {md t na rc rs bc bs : Nat} {d : mD} {x3 : Int32} {Qr : xb_H → Nat → Nat → Prop} (hB : cB own ad h) (hS : mS ad h) (hm : mo own h md d) (hA : xr_row h (ad 16) 1 na (ad 17)) (hna : na ≤ 1000) (hx : x3.toInt = t) (ht : t < dn d 0 / 5) (hP : (dvs d 0 (5 * t + 2)).toInt = na) (hg : bgv ad h rc rs bc bs)
    (hQ : ∀ (h' : xb_H) (own' : Nat → Nat) (q bc' bs' : Nat), stp [15, 37] [] own ad own' (va_up ad 37 q) h h' → (∀ k, k ≠ 10 → xb_i h' (ad 15) k = xb_i h (ad 15) k) → (xb_i h' (ad 15) 10).toInt = na → na ≤ xb_n h' q → 64 ≤ xb_n h' q → xb_n h' q ≤ 16384 → vst (xb_l h' q) 0 (tyf d t).1 → bgv (va_up ad 37 q) h' rc rs bc' bs' → (∀ i, i < na → xb_l h' q i = arV (dcb d ((dvs d 0 (5 * t + 1)).toInt.toNat + i)).toInt (xb_l h (ad 17) i)) → xb_l h' (ad 15) = xb_l h (ad 15) → Qr h' bc' bs') : w_Machine_takeArguments (ad 15) (ad 16) md x3 h bc bs Qr := by
  have hS' := hS
  obtain ⟨S1, S2, S3, S4⟩ := hS'
  obtain ⟨b1, b2, b3, b4, b5, b6, b7, b8⟩ := id hA
  unfold w_Machine_takeArguments
  refine ⟨b1, hB.k 15 (by omega), mc_makeRoom hB hS b3 (by omega) hg (fun h3 own1 q bc1 bs1 s3 y1 y2 y3 y4 y5 y6 y7 _ => ⟨na + 1, ?_⟩)⟩
  generalize had : va_up ad 37 q = ad1 at s3 y7
  have A : ∀ k, k ≠ 37 → ad1 k = ad k := fun k hk => by rw [← had, xh_up, if_neg hk]
  have a37 : ad1 37 = q := by rw [← had, xh_up, if_pos rfl]
  have a15 := A 15 (by omega)
  have a16 := A 16 (by omega)
  have a17 := A 17 (by omega)
  have hm3 : mo own1 h3 md d := hm.fr (fun a h1 h2 => s3.n1 hB (by decide) h1 (by simp) h2 (by omega)) s3.2.2.2.1 (fun a h1 h2 => by rw [s3.2.2.1 a h1]; exact h2)
  have s16 := (s3.cm hB (by decide) (fun x hx => by cases hx) (k := 16) (by omega) (by decide)).2
  have hA3 : xr_row h3 (ad1 16) 1 na (ad1 17) := by
    rw [a16, a17]
    exact hA.fr s16 s3.2.2.2.1
  obtain ⟨p1, p2, p3, p4, p5, p6⟩ := hm.ty ht
  have key : ∀ (m : Nat) (x4 : Int32) (k : Nat) (h1 : xb_H), x4.toInt = k → k + m = na → stp [37] [] own1 ad1 own1 ad1 h3 h1 → xb_i h1 = xb_i h3 → (∀ i, i < k → xb_l h1 q i = arV (dcb d ((dvs d 0 (5 * t + 1)).toInt.toNat + i)).toInt (xb_l h (ad 17) i)) → w_Machine_takeArguments_L11 Qr (m + 1) (ad 15) (ad 16) md x3 x4 h1 bc1 bs1 := by
    intro m
    induction m with
    | zero =>
      intro x4 k h1 e1 e2 s1 i1 v1
      unfold w_Machine_takeArguments_L11
      have k16 : xb_k h1 (ad 16) = 2 := by rw [← a16]; exact s1.1.k 16 (by omega)
      have i16 : xb_i h1 (ad 16) 1 = xb_i h (ad 16) 1 := by rw [i1, s16.1]
      refine ⟨k16, fun _ => ⟨by rw [← a15]; exact s1.1.k 15 (by omega), fun h4 e4 => ?_⟩, fun e => ?_⟩
      · rw [i16] at e4
        have s4 : stp [15] [] own1 ad1 own1 ad1 h1 h4 := by rw [e4, ← a15]; exact stp.Ic s1.1
        have sA := (s3.tr (s1.tr s4)).mono (C2 := [15, 37]) (X2 := []) (by decide) (fun k hk => by simpa using hk)
        have n4 : xb_n h4 q = xb_n h3 q := by
          have z := s3.1.z 37 (by omega)
          rw [a37] at z
          rw [e4, xh_nI, (s1.2.2.2.1 q z).2]
        have l4 : xb_l h4 = xb_l h1 := by rw [e4, xh_lI]
        refine hQ h4 own1 q bc1 bs1 (by rw [had]; exact sA) (fun k hk => ?_) ?_ (by rw [n4]; exact y3) (by rw [n4]; omega) (by rw [n4]; exact y5) ?_ ?_ (fun i hi => by rw [l4]; exact v1 i (by omega)) (by rw [l4, ← a15, (s1.cm s3.1 (by decide) (fun x hx => by cases hx) (k := 15) (by omega) (by decide)).2.2.1, a15]; exact y1.2)
        · rw [e4, xh_iI, if_pos rfl, xh_up, if_neg hk, i1]
          exact congrFun y1.1 k
        · rw [e4, xh_iI, if_pos rfl, xh_up, if_pos rfl]
          exact b3
        · unfold tyf
          rw [vst_ptl, l4]
          intro i hi
          rw [Nat.zero_add, v1 i (by omega)]
          exact arV_vr
        · rw [had]
          have g1 := y7.st s3.1 s1
          exact g1.st s1.1 s4
      · rw [z_le, i16, b3, e1] at e
        omega
    | succ m ih =>
      intro x4 k h1 e1 e2 s1 i1 v1
      unfold w_Machine_takeArguments_L11
      have k16 : xb_k h1 (ad 16) = 2 := by rw [← a16]; exact s1.1.k 16 (by omega)
      have i16 : xb_i h1 (ad 16) 1 = xb_i h (ad 16) 1 := by rw [i1, s16.1]
      have hm1 : mo own1 h1 md d := hm3.fr (fun a h1 h2 => s1.n1 s3.1 (by decide) h1 (by simp) h2 (by omega)) s1.2.2.2.1 (fun a _ h2 => h2)
      have hA1 : xr_row h1 (ad1 16) 1 na (ad1 17) := hA3.fr (s1.cm s3.1 (by decide) (fun x hx => by cases hx) (k := 16) (by omega) (by decide)).2 s1.2.2.2.1
      obtain ⟨c1, c2, c3, c4, c5, c6, c7, c8⟩ := hA1
      rw [a16] at c4
      rw [a17] at c4 c5 c6
      have k37 : xb_k h1 q = 103 := by rw [← a37]; exact s1.1.k 37 (by omega)
      have r9 : xb_r h1 (ad 15) 9 = some q := by rw [← a37, ← a15]; exact s1.1.r (15, 9, 37) (by decide)
      have cx : x4.toNatClampNeg = k := by rw [z_cl, e1, Int.toNat_natCast]
      refine ⟨k16, fun e => ?_, fun _ => ⟨hm1.1.k, md_parameterType (j := k) hm1.1 hm1.2.1.1.1 hx ht e1 (by omega) (fun j hj g1 g2 _ => ⟨by rw [← a15]; exact s1.1.k 15 (by omega), q, r9, ?_⟩)⟩⟩
      · rw [z_le, i16, b3, e1] at e
        omega
      · have ej : j = (dvs d 0 (5 * t + 1)).toInt.toNat + k := by omega
        have nz : xb_n h1 q = xb_n h3 q := by
          have z := s3.1.z 37 (by omega)
          rw [a37] at z
          exact (s1.2.2.2.1 q z).2
        have l17 : xb_l h1 (ad 17) = xb_l h (ad 17) := by
          rw [← a17, (s1.cm s3.1 (by decide) (fun x hx => by cases hx) (k := 17) (by omega) (by decide)).2.2.1, a17]
          exact (s3.cm hB (by decide) (fun x hx => by cases hx) (k := 17) (by omega) (by decide)).2.2.1
        have L70 : ∀ v : Int64, v = arV (dcb d j).toInt (xb_l h (ad 17) k) → w_Machine_takeArguments_L70 (w_Machine_takeArguments_L11 Qr (m + 1)) Qr (ad 15) (ad 16) md x3 x4 v x4 q h1 bc1 bs1 := by
          intro v hv
          unfold w_Machine_takeArguments_L70
          refine ⟨k37, by rw [z_in, e1, nz]; omega, fun h5 e5 => ?_⟩
          rw [cx] at e5
          have s5 : stp [37] [] own1 ad1 own1 ad1 h1 h5 := by rw [e5, ← a37]; exact stp.Lc s1.1
          refine ih (x4 + 1) (k + 1) h5 (z_inc e1 (by omega)) (by omega) ((s1.tr s5).mono (by decide) (fun k hk => by simpa using hk)) (by rw [e5, xh_iL, i1]) (fun i hi => ?_)
          rw [e5, xh_lL, if_pos rfl, xh_up]
          split
          · rename_i e9
            rw [e9, ← ej]
            exact hv
          · exact v1 i (by omega)
        have L49 : (dcb d j).toInt = 127 ∨ (dcb d j).toInt = 125 → w_Machine_takeArguments_L49 (w_Machine_takeArguments_L11 Qr (m + 1)) Qr (ad 15) (ad 16) md x3 x4 x4 q h1 bc1 bs1 := by
          intro h75
          unfold w_Machine_takeArguments_L49
          exact ⟨k16, ad 17, c4, c5, by rw [z_in, e1]; omega, L70 _ (by rw [cx, l17]; unfold arV; rw [if_pos h75])⟩
        refine ⟨fun e7 => L49 (.inl ?_), fun e7 => ⟨fun e5 => ⟨ad 17, c4, c5, by rw [z_in, e1]; omega, L70 _ ?_⟩, fun e5 => L49 (.inr ?_)⟩⟩
        · rw [e7]; rfl
        · rw [cx, l17]
          unfold arV
          rw [if_neg (fun h9 => ?_)]
          rcases h9 with h9 | h9
          · exact e7 (z_eq.mpr (by rw [h9]; rfl))
          · exact e5 (z_eq.mpr (by rw [h9]; rfl))
        · rw [e5]; rfl
  exact key na 0 0 h3 rfl (by omega) ((stp.rf s3.1).mono (by decide) (fun k hk => hk)) rfl (fun i hi => by omega)
end TA1
