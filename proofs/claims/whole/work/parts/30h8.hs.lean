-- equality: instantiate, the new instance of the reference
/-- what there is when an instance has been made: m before the rows are written and functions are noted, Φ at the end -/
def rFn (φ : Nat → Nat → Int32) (ℓ : Nat → Nat → Int64) (v : Nat → Int32) (DM : Nat → zM) (m : Nat) (r4 y4 r7 y7 : Int64) (cn : Nat → Int64) (w : Nat → Int32) (φm Φ : Nat → Nat → Int32) (Λ : Nat → Nat → Int64) (v5 : Nat → Int32) : Prop :=
  (iRf φ ℓ v φm Λ v ∧ (∀ k, k ∈ gAL → k ∉ [44, 45, 51, 56, 57, 89] → Φ k = φm k) ∧ ∀ j, j < qt (DM m) 2 → φm 33 (vN v 34 + j) = w j) ∧
  (((φm 31 (vN v 30)).toInt = m ∧ (φm 32 (vN v 30)).toInt = vN v 34 ∧ (φm 35 (vN v 30)).toInt = vN v 43 ∧ (φm 36 (vN v 30)).toInt = vN v 58 ∧ (φm 37 (vN v 30)).toInt = vN v 46 ∧ (φm 38 (vN v 30)).toInt = vN v 52) ∧ (0 < qt (DM m) 4 → (φm 48 (vN v 46)).toInt = vN v 47 ∧ (φm 49 (vN v 46)).toInt = r4.toInt ∧ Λ 50 (vN v 46) = y4) ∧ (0 < qt (DM m) 5 → (φm 54 (vN v 52)).toInt = r7.toInt ∧ Λ 55 (vN v 52) = y7)) ∧
  (∀ j, j < qt (DM m) 6 → (φm 59 (vN v 58 + j)).toInt = vty (DM m) (iM (DM m) 3 + j) ∧ φm 60 (vN v 58 + j) = (if ub (qc (DM m)) (qp (DM m) 6 j + 1) = 1 then 1 else 0) ∧ Λ 61 (vN v 58 + j) = cn (qp (DM m) 6 j + 2)) ∧
  ((∀ f, f < vN v 43 → Φ 44 f = φ 44 f ∧ Φ 45 f = φ 45 f) ∧ ∀ k, k < qt (DM m) 3 → (Φ 44 (vN v 43 + k)).toInt = vN v 30 ∧ (Φ 45 (vN v 43 + k)).toInt = k) ∧
  (∀ e, (Φ 51 e).toInt = wrr (fun k => cV (qc (DM m)) (rwE (DM m) 9 k)) (fun k j => (φm 48 (oV id φm DM (vN v 30) 1).toInt.toNat).toInt.toNat + (cn (cE (qc (DM m)) (qp (DM m) 9 k)) &&& 4294967295).toInt.toNat + j) (fun k j => ((mnV id φm DM (vN v 30) 0 (cV (qc (DM m)) ((cks (qc (DM m)) j (cE (qc (DM m)) (rwE (DM m) 9 k))).getD 0)) + 1 : Nat) : Int)) (fun e => (if vN v 47 ≤ e ∧ e < vN v 47 + (if qt (DM m) 4 = 0 then 0 else r4.toInt.toNat) then 0 else φ 51 e).toInt) (qt (DM m) 9) e) ∧
  (∀ b, byR (Φ 57) b = wrr (fun k => cV (qc (DM m)) (rwE (DM m) 11 k)) (fun k j => mpA (fun c => Φ 56 (16 * (oV id φm DM (vN v 30) 2).toInt.toNat + c)) ((cn (cE (qc (DM m)) (qp (DM m) 11 k)) &&& 4294967295).toInt.toNat + j)) (fun k j => ((qc (DM m) (cE (qc (DM m)) (rwE (DM m) 11 k) + j)).toInt % 256).toNat) (byR (φ 57)) (qt (DM m) 11) b) ∧
  ((∀ j, ¬ (16 * vN v 52 ≤ j ∧ j < 16 * vN v 52 + (if qt (DM m) 5 = 0 then 0 else r7.toInt.toNat)) → Φ 56 j = φ 56 j) ∧ ∀ k, k < (if qt (DM m) 5 = 0 then 0 else r7.toInt.toNat) → (Φ 56 (16 * vN v 52 + k)).toInt = (vN v 53 + k : Nat)) ∧
  (vN v5 30 = vN v 30 + 1 ∧ vN v5 43 = vN v 43 + qt (DM m) 3 ∧ vN v5 58 = vN v 58 + qt (DM m) 6 ∧ vN v5 47 = vN v 47 + (if qt (DM m) 4 = 0 then 0 else r4.toInt.toNat) ∧ (v5 53).toInt = (vN v 53 + (if qt (DM m) 5 = 0 then 0 else r7.toInt.toNat) : Nat) ∧ ∀ j, j ∈ gVL → j ∉ [30, 43, 47, 53, 58, 62, 63, 64] → v5 j = v j) ∧
  ((qt (DM m) 8 = 0 ∧ v5 62 = v 62) ∨ (0 < qt (DM m) 8 ∧ (v5 64).toInt = mnV id φm DM (vN v 30) 0 (cV (qc (DM m)) (qp (DM m) 8 0)) ∧ v5 62 = 1 ∧ v5 63 = 0)) ∧ Φ 89 0 = 0 ∧ Φ 89 1 = 0
section HU
variable {own2 A A2 : Nat → Nat} {mm m : Nat} {h h3 hr : xb_H} {F G F5 : Nat → Nat → Int32} {v u3 v5 : Nat → Int32} {DM : Nat → zM} {r4 y4 r7 y7 : Int64}
theorem in_ref (hB : mB own2 mm A2 hr) (hR : mdR (DM m)) (hV : MV0 (DM m)) (hN : iNw A h F v DM m r4 y4 r7 y7 A2 h3 G) (hi : iRf (fun k => F (A k)) (fun k => xb_l h (A k)) v (fun k => G (A2 k)) (fun k => xb_l h3 (A2 k)) u3) (hu : ∀ j, j ≠ 0 → j ∉ [14, 15, 16, 17, 18] → u3 j = v j) (hg : ∀ j, j < qt (DM m) 2 → (ub (qc (DM m)) (kpo (DM m) j)).toInt = 3 → ∃ g : Nat, (G (A2 33) (vN v 34 + j)).toInt = g ∧ g < vN v 58) (hX : mdX A2 h3 G u3 DM m hr F5 v5) : ∃ φm, rFn (fun k => F (A k)) (fun k => xb_l h (A k)) v DM m r4 y4 r7 y7 (cnV A2 h3 G (DM m) (vN v 34)) (fun j => G (A2 33) (vN v 34 + j)) φm (fun k => F5 (A2 k)) (fun k => xb_l hr (A2 k)) v5 := by
  obtain ⟨w, z, v2, v3, v4, F3, F4, hiv, g2, ⟨sW, sF, s34, s43, s58, s46, s47, s52, s53⟩, k3, g3, n30, -, -, ⟨wE, wD⟩, k4, g4, e5, hst⟩ := hX
  have vu : ∀ k, k ∈ [30, 34, 43, 46, 47, 52, 53, 58] → vN u3 k = vN v k := fun k hk => by
    unfold vN
    rw [hu k ((by decide : ∀ k, k ∈ [30, 34, 43, 46, 47, 52, 53, 58] → k ≠ 0) k hk) ((by decide : ∀ k, k ∈ [30, 34, 43, 46, 47, 52, 53, 58] → k ∉ [14, 15, 16, 17, 18]) k hk)]
  have v2u : ∀ k, k ∈ [30, 34, 43, 46, 47, 52, 53, 58] → vN v2 k = vN v k := fun k hk => by
    rw [← vu k hk]
    unfold vN
    rw [g2.gv ((by decide : ∀ k, k ∈ [30, 34, 43, 46, 47, 52, 53, 58] → k ∉ [14, 15, 16, 17, 18]) k hk)]
  rw [vu 34 (by decide)] at hiv
  rw [vu 30 (by decide), vu 34 (by decide)] at wE wD
  rw [vu 30 (by decide)] at n30 hst
  obtain ⟨i1, i2, i3⟩ := hiv
  rw [vu 58 (by decide)] at i2 i3
  have ne : ∀ {j k : Nat}, (∃ e ∈ aL, e.1 = j) → (∃ e ∈ aL, e.1 = k) → k ≠ j → ∀ (G : Nat → Nat → Int32) (w : Nat → Int32), va_up G (A2 j) w (A2 k) = G (A2 k) := fun hj hk hn G w => by rw [xh_up, if_neg (hB.ne hk hj hn)]
  have at_ : ∀ {j : Nat} (G : Nat → Nat → Int32) (w : Nat → Int32), va_up G (A2 j) w (A2 j) = w := fun G w => by rw [xh_up, if_pos rfl]
  obtain ⟨Gm, hGm⟩ : ∃ Gm, Gm = va_up (va_up G (A2 59) w) (A2 60) z := ⟨_, rfl⟩
  rw [← hGm] at sW s47 s53 k3
  have gm : ∀ k, (∃ e ∈ aL, e.1 = k) → k ≠ 59 → k ≠ 60 → Gm (A2 k) = G (A2 k) := fun k hk h5 h6 => by rw [hGm, ne (by decide) hk h6, ne (by decide) hk h5]
  have gm59 : Gm (A2 59) = w := by rw [hGm, ne (by decide) (by decide) (by decide), at_]
  have gm60 : Gm (A2 60) = z := by rw [hGm, at_]
  have hl : ∀ k, (∃ e ∈ aL, e.1 = k) → k ≠ 61 → xb_l hr (A2 k) = xb_l h3 (A2 k) := fun k hk h5 => i1 _ (hB.ne hk (by decide) h5)
  -- the end's rows
  have f5 : ∀ k, (∃ e ∈ aL, e.1 = k) → k ≠ 89 → F5 (A2 k) = F4 (A2 k) := fun k hk hn => by rw [e5, ne (by decide) hk hn]
  have f5m : ∀ k, (∃ e ∈ aL, e.1 = k) → k ∉ [44, 45, 51, 56, 57, 89] → F5 (A2 k) = Gm (A2 k) := fun k hk hn => by
    have q : ∀ j, j ∈ [44, 45, 51, 56, 57, 89] → k ≠ j := fun j hj e => hn (e ▸ hj)
    rw [f5 k hk (q 89 (by decide)), k4 k hk (q 51 (by decide)) (q 57 (by decide)), k3 k hk (fun h9 => hn ((by decide : ∀ k, k ∈ [44, 45, 51, 56] → k ∈ [44, 45, 51, 56, 57, 89]) k h9))]
  have f56 : F5 (A2 56) = F3 (A2 56) := by rw [f5 56 (by decide) (by decide), k4 56 (by decide) (by decide) (by decide)]
  have f44 : F5 (A2 44) = F3 (A2 44) := by rw [f5 44 (by decide) (by decide), k4 44 (by decide) (by decide) (by decide)]
  have f45 : F5 (A2 45) = F3 (A2 45) := by rw [f5 45 (by decide) (by decide), k4 45 (by decide) (by decide) (by decide)]
  have f3m : ∀ k, (∃ e ∈ aL, e.1 = k) → k ∉ [44, 45, 51, 56] → F3 (A2 k) = Gm (A2 k) := k3
  obtain ⟨N1, N2, N3, N4⟩ := hN
  have r49 : (if qt (DM m) 4 = 0 then 0 else (Gm (A2 49) (vN v2 46)).toInt.toNat) = (if qt (DM m) 4 = 0 then 0 else r4.toInt.toNat) := by
    by_cases h9 : qt (DM m) 4 = 0
    · rw [if_pos h9, if_pos h9]
    · rw [if_neg h9, if_neg h9, v2u 46 (by decide), gm 49 (by decide) (by decide) (by decide), (N2 (by omega)).2.1]
  have r54 : (if qt (DM m) 5 = 0 then 0 else (Gm (A2 54) (vN v2 52)).toInt.toNat) = (if qt (DM m) 5 = 0 then 0 else r7.toInt.toNat) := by
    by_cases h9 : qt (DM m) 5 = 0
    · rw [if_pos h9, if_pos h9]
    · rw [if_neg h9, if_neg h9, v2u 52 (by decide), gm 54 (by decide) (by decide) (by decide), (N3 (by omega)).1]
  rw [r49] at s47
  rw [r54] at s53
  rw [r49, r54] at sW
  obtain ⟨sW1, sW2, sW3, sW4⟩ := sW
  rw [v2u 43 (by decide)] at sW1 sF s43
  rw [v2u 30 (by decide)] at sF
  rw [v2u 47 (by decide)] at sW2 s47
  rw [v2u 52 (by decide)] at sW3 sW4
  rw [v2u 53 (by decide)] at sW4 s53
  rw [v2u 58 (by decide)] at s58
  have a0 : ∀ k, k ∈ gAL → k ∉ [31, 32, 33, 35, 36, 37, 38, 48, 49, 54, 59, 60, 89] → G (A2 k) = F (A k) := hi.1
  -- constants
  have cnE : ∀ s k E p3 L, rowP (DM m) s k E p3 L → cnV A2 hr F3 (DM m) (vN v 34) (cE (qc (DM m)) (qp (DM m) s k)) = cnV A2 h3 G (DM m) (vN v 34) (cE (qc (DM m)) (qp (DM m) s k)) := fun s k E p3 L hr9 => cnV.cg2 hr9.1 (by rw [f3m 33 (by decide) (by decide), gm 33 (by decide) (by decide) (by decide)]) hg (fun g hg9 => (i2 g hg9).2.2)
  have mn : ∀ κ k, mnV A2 F3 DM (vN v 30) κ k = mnV id (fun k => Gm (A2 k)) DM (vN v 30) κ k := fun κ k => by
    unfold mnV
    simp only [id]
    rw [f3m 31 (by decide) (by decide), f3m 32 (by decide) (by decide), f3m 33 (by decide) (by decide), f3m 35 (by decide) (by decide), f3m 36 (by decide) (by decide), f3m 37 (by decide) (by decide), f3m 38 (by decide) (by decide)]
  have ov : ∀ κ, oV A2 G DM (vN v 30) κ = oV id (fun k => Gm (A2 k)) DM (vN v 30) κ := fun κ => by
    unfold oV
    simp only [id]
    rw [gm 31 (by decide) (by decide) (by decide), gm 32 (by decide) (by decide) (by decide), gm 33 (by decide) (by decide) (by decide), gm 37 (by decide) (by decide) (by decide), gm 38 (by decide) (by decide) (by decide)]
  have c4 : ∀ k, k ∉ [14, 15, 16, 17, 18] → v4 k = v3 k := fun k hk => g4.gv hk
  refine ⟨fun k => Gm (A2 k), ⟨?_, fun k hk hn => f5m k (gAL_k k hk) hn, fun j hj => ?_⟩, ⟨?_, fun h9 => ?_, fun h9 => ?_⟩, fun j hj => ?_, ⟨fun f hf => ?_, fun k hk => ?_⟩, fun e => ?_, fun b => ?_, ⟨fun j hj => ?_, fun k hk => ?_⟩, ?_, ?_, ?_⟩
  · refine hi.tr (ν' := u3) (φ' := fun k => G (A2 k)) (ℓ' := fun k => xb_l h3 (A2 k)) ?_ (fun k hk => vu k ((by decide : ∀ k, k ∈ [30, 34, 46, 52, 58] → k ∈ [30, 34, 43, 46, 47, 52, 53, 58]) k hk))
    refine ⟨fun k hk hn => gm k (gAL_k k hk) (fun e => hn (by rw [e]; decide)) (fun e => hn (by rw [e]; decide)), fun k hk j hj => ?_, fun j _ => congrFun (gm 33 (by decide) (by decide) (by decide)) j, fun t ht => ⟨?_, ?_, ?_⟩, fun t ht => ⟨?_, ?_⟩, fun t ht => ⟨?_, ?_, ?_⟩, fun k hk => ?_, fun j hj => (hu j (gVL_v j hj).1 (gVL_v j hj).2).symm⟩
    · have := (by decide : ∀ k, k ∈ [31, 32, 35, 36, 37, 38] → (∃ e ∈ aL, e.1 = k) ∧ k ≠ 59 ∧ k ≠ 60) k hk
      exact congrFun (gm k this.1 this.2.1 this.2.2) j
    · exact congrFun (gm 48 (by decide) (by decide) (by decide)) t
    · exact congrFun (gm 49 (by decide) (by decide) (by decide)) t
    · exact congrFun (hl 50 (by decide) (by decide)) t
    · exact congrFun (gm 54 (by decide) (by decide) (by decide)) t
    · exact congrFun (hl 55 (by decide) (by decide)) t
    · show Gm (A2 59) t = _
      rw [gm59]
      exact (i2 t (by rw [vu 58 (by decide)] at ht; exact ht)).1
    · show Gm (A2 60) t = _
      rw [gm60]
      exact (i2 t (by rw [vu 58 (by decide)] at ht; exact ht)).2.1
    · exact (i2 t (by rw [vu 58 (by decide)] at ht; exact ht)).2.2
    · have := (by decide : ∀ k, k ∈ [65, 67, 74, 87] → (∃ e ∈ aL, e.1 = k) ∧ k ≠ 61) k hk
      exact hl k this.1 this.2
  · show Gm (A2 33) (vN v 34 + j) = G (A2 33) (vN v 34 + j)
    rw [gm 33 (by decide) (by decide) (by decide)]
  · show (Gm (A2 31) _).toInt = _ ∧ (Gm (A2 32) _).toInt = _ ∧ (Gm (A2 35) _).toInt = _ ∧ (Gm (A2 36) _).toInt = _ ∧ (Gm (A2 37) _).toInt = _ ∧ (Gm (A2 38) _).toInt = _
    rw [gm 31 (by decide) (by decide) (by decide), gm 32 (by decide) (by decide) (by decide), gm 35 (by decide) (by decide) (by decide), gm 36 (by decide) (by decide) (by decide), gm 37 (by decide) (by decide) (by decide), gm 38 (by decide) (by decide) (by decide)]
    exact N1
  · show (Gm (A2 48) _).toInt = _ ∧ (Gm (A2 49) _).toInt = _ ∧ xb_l hr (A2 50) _ = _
    rw [gm 48 (by decide) (by decide) (by decide), gm 49 (by decide) (by decide) (by decide), hl 50 (by decide) (by decide)]
    exact N2 h9
  · show (Gm (A2 54) _).toInt = _ ∧ xb_l hr (A2 55) _ = _
    rw [gm 54 (by decide) (by decide) (by decide), hl 55 (by decide) (by decide)]
    exact N3 h9
  · show (Gm (A2 59) _).toInt = _ ∧ Gm (A2 60) _ = _ ∧ xb_l hr (A2 61) _ = _
    rw [gm59, gm60]
    exact i3 j hj
  · show F5 (A2 44) f = F (A 44) f ∧ F5 (A2 45) f = F (A 45) f
    have := sW1 f (fun h9 => by omega)
    rw [f44, f45, this.1, this.2, gm 44 (by decide) (by decide) (by decide), gm 45 (by decide) (by decide) (by decide), a0 44 (by decide) (by decide), a0 45 (by decide) (by decide)]
    exact ⟨rfl, rfl⟩
  · show (F5 (A2 44) _).toInt = _ ∧ (F5 (A2 45) _).toInt = _
    rw [f44, f45]
    exact sF k hk
  · show (F5 (A2 51) e).toInt = _
    rw [f5 51 (by decide) (by decide), wE e]
    refine wrr_rel (R := Eq) _ (fun j hj => rfl) (fun k hk j hj => ?_) (fun k hk j hj => ?_) ?_
    · obtain ⟨E, p3, L, hr9⟩ := rowP_c hR hV (.inl rfl) hk
      show (F3 (A2 48) (oV A2 G DM (vN v 30) 1).toInt.toNat).toInt.toNat + wrO A2 hr F3 (DM m) (vN v 34) 9 k + j = (Gm (A2 48) (oV id (fun k => Gm (A2 k)) DM (vN v 30) 1).toInt.toNat).toInt.toNat + _ + j
      unfold wrO
      rw [cnE 9 k E p3 L hr9, f3m 48 (by decide) (by decide), ov 1]
    · show ((mnV A2 F3 DM (vN v 30) 0 _ + 1 : Nat) : Int) = _
      rw [mn]
    · show (F3 (A2 51) e).toInt = (if _ then 0 else F (A 51) e).toInt
      rw [sW2 e, gm 51 (by decide) (by decide) (by decide), a0 51 (by decide) (by decide)]
  · show byR (F5 (A2 57)) b = _
    unfold byR
    rw [f5 57 (by decide) (by decide), wD b]
    refine wrr_rel (R := fun (x : Int) (y : Nat) => x.toNat = y) _ (fun j hj => rfl) (fun k hk j hj => ?_) (fun k hk j hj => rfl) ?_
    · obtain ⟨E, p3, L, hr9⟩ := rowP_c hR hV (.inr rfl) hk
      show mpA (fun c => F3 (A2 56) (16 * (oV A2 G DM (vN v 30) 2).toInt.toNat + c)) (wrO A2 hr F3 (DM m) (vN v 34) 11 k + j) = mpA (fun c => F5 (A2 56) (16 * (oV id (fun k => Gm (A2 k)) DM (vN v 30) 2).toInt.toNat + c)) _
      unfold wrO
      rw [cnE 11 k E p3 L hr9, f56, ov 2]
    · show ((F3 (A2 57) b).toInt % 256).toNat = ((F (A 57) b).toInt % 256).toNat
      rw [f3m 57 (by decide) (by decide), gm 57 (by decide) (by decide) (by decide), a0 57 (by decide) (by decide)]
  · show F5 (A2 56) j = F (A 56) j
    rw [f56, sW3 j hj, gm 56 (by decide) (by decide) (by decide), a0 56 (by decide) (by decide)]
  · show (F5 (A2 56) _).toInt = _
    rw [f56]
    exact sW4 k hk
  · -- counts
    have key : ∀ k, k ∉ [14, 15, 16, 17, 18] → k ∉ [62, 63, 64, 93] → v5 k = v3 k := fun k h8 h9 => by
      rcases hst with ⟨-, e⟩ | ⟨-, u, gu, -, -, -, -, e⟩
      · rw [e, c4 k h8]
      · rw [e k h9, gu.gv h8, c4 k h8]
    have kN : ∀ k, k ∉ [14, 15, 16, 17, 18] → k ∉ [62, 63, 64, 93] → vN v5 k = (v3 k).toInt.toNat := fun k h8 h9 => by
      unfold vN
      rw [key k h8 h9]
    refine ⟨?_, ?_, ?_, ?_, ?_, fun j hj hn => ?_⟩
    · rw [kN 30 (by decide) (by decide)]
      exact n30
    · rw [kN 43 (by decide) (by decide), s43, Int.toNat_natCast]
    · rw [kN 58 (by decide) (by decide), s58, Int.toNat_natCast]
    · rw [kN 47 (by decide) (by decide), s47, Int.toNat_natCast]
    · rw [key 53 (by decide) (by decide)]
      exact s53
    · have q := (by decide : ∀ j, j ∈ gVL → j ∉ [30, 43, 47, 53, 58, 62, 63, 64] → j ≠ 0 ∧ j ∉ [14, 15, 16, 17, 18] ∧ j ∉ [62, 63, 64, 93] ∧ j ∉ [30, 34, 43, 46, 47, 52, 53, 58]) j hj hn
      rw [key j q.2.1 q.2.2.1, g3 j q.2.2.2, g2.gv q.2.1, hu j q.1 q.2.1]
  · rcases hst with ⟨e0, e⟩ | ⟨e0, u, gu, e1, e2, e3, -, -⟩
    · refine .inl ⟨e0, ?_⟩
      rw [e, c4 62 (by decide), g3 62 (by decide), g2.gv (by decide), hu 62 (by decide) (by decide)]
    · refine .inr ⟨e0, ?_, e2, e3⟩
      rw [e1]
      have mn5 : mnV A2 F5 DM (vN v 30) 0 (cV (qc (DM m)) (qp (DM m) 8 0)) = mnV id (fun k => Gm (A2 k)) DM (vN v 30) 0 (cV (qc (DM m)) (qp (DM m) 8 0)) := by
        unfold mnV
        simp only [id]
        rw [f5m 31 (by decide) (by decide), f5m 32 (by decide) (by decide), f5m 33 (by decide) (by decide), f5m 35 (by decide) (by decide), f5m 36 (by decide) (by decide), f5m 37 (by decide) (by decide), f5m 38 (by decide) (by decide)]
      rw [mn5]
  · show F5 (A2 89) 0 = 0 ∧ F5 (A2 89) 1 = 0
    rw [e5, at_, xh_up, if_neg (by decide), xh_up, if_pos rfl, xh_up, if_pos rfl]
    exact ⟨rfl, rfl⟩
end HU
