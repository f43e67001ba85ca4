-- equality: an instruction's check, by what the class holds and by the bytes
theorem lb1_cg {fs : List s5} {ls ls' : Nat → Nat} {L : Nat} (h : ∀ k, k ≤ L → ls k = ls' k) : lb1 fs ls L = lb1 fs ls' L := by
  by_cases h1 : ∀ k, k ≤ L → ls k < fs.length
  · have h1' : ∀ k, k ≤ L → ls' k < fs.length := fun k hk => by rw [← h k hk]; exact h1 k hk
    by_cases h2 : ∀ k, k ≤ L → lty5 fs (ls k) = lty5 fs (ls 0)
    · rw [lb1_g h1 h2, lb1_g h1' (fun k hk => by rw [← h k hk, ← h 0 (Nat.zero_le _)]; exact h2 k hk), h 0 (Nat.zero_le _)]
    · obtain ⟨k, hk⟩ := Classical.not_forall.mp h2
      obtain ⟨k1, k2⟩ := Classical.not_imp.mp hk
      rw [lb1_21 h1 ⟨k, k1, k2⟩, lb1_21 h1' ⟨k, k1, by rw [← h k k1, ← h 0 (Nat.zero_le _)]; exact k2⟩]
  · obtain ⟨k, hk⟩ := Classical.not_forall.mp h1
    obtain ⟨k1, k2⟩ := Classical.not_imp.mp hk
    rw [lb1_20 ⟨k, k1, k2⟩, lb1_20 ⟨k, k1, by rw [← h k k1]; exact k2⟩]
theorem ckFl_cg {f : s5} {cur : List Int} {g : Int} {r : List s5} {op y y' : Nat} {bt bt' rt rt' : Int} {ls ls' : Nat → Nat} (hy : op = 12 ∨ op = 13 ∨ op = 14 → y = y') (hb : op = 2 ∨ op = 3 ∨ op = 4 → bt = bt') (hl : op = 14 → ∀ k, k ≤ y → ls k = ls' k) (hr : rt = rt') : ckFl f cur g r op y bt ls rt = ckFl f cur g r op y' bt' ls' rt' := by
  subst hr
  by_cases h1 : op = 2 ∨ op = 3
  · rw [ckFl_23 h1, ckFl_23 h1, hb (by omega)]
  by_cases h2 : op = 4
  · rw [ckFl_4 h2, ckFl_4 h2, hb (by omega)]
  by_cases h3 : op = 12
  · rw [ckFl_12 h3, ckFl_12 h3, hy (by omega)]
  by_cases h4 : op = 13
  · rw [ckFl_13 h4, ckFl_13 h4, hy (by omega)]
  by_cases h5 : op = 14
  · rw [ckFl_14 h5, ckFl_14 h5, ← hy (by omega), lb1_cg (hl h5)]
  unfold ckFl
  simp only [if_neg h1, if_neg h2, if_neg h3, if_neg h4, if_neg h5]
section CCF
variable {b N : Nat} {cA cb ν ν0 lo lo' iv : Nat → Int32} {T : Sm} {n : Nat → Nat} {vs : Nat → Nat → Int64} {s sa : Int32} {D : zM} {t lcn q q' op pa P y : Nat} {cur : List Int} {f : s5} {r fs : List s5} {g : Int}
theorem tpZ_T (hE : eR cA ν b N T n vs iv s sa) (hD : D = zk b N cA T) (hCx : cx_ cA cb b N) {u : Nat} (hu : u < qt D 1) (hpN : tPa D u + tPn D u ≤ b + N) (hp0 : 0 ≤ (vs 0 (5 * u + 1)).toInt) : tpZ vs cb u f cur g fs = ckTp D u f cur g fs := by
  obtain ⟨-, h1, h2, -, h4⟩ := zk_ty hE hD hu
  have hqc : qc D = cA := by rw [hD]; rfl
  unfold tpZ ckTp
  rw [h4, show (vs 0 (5 * u + 2)).toInt.toNat = tPn D u by omega, ptl_eq (cb' := qc D) (pa' := tPa D u) (tPn D u) (fun j hj => ?_)]
  rw [hqc, hCx.1 _ (by omega)]
  congr 1
  omega
theorem ckZ_O (hE : eR cA ν0 b N T n vs iv s sa) (hD : D = zk b N cA T) (hCx : cx_ cA cb b N) (hW : rW cA (wk_sh (op : Int)) (b + q + 1) q') (hn : 4 ≤ wk_sh (op : Int) → nXc cA ν b (wk_sh (op : Int)) q q') (hq' : q' ≤ b + N) (ht : t < qt D 1) (hpa : (vs 0 (5 * t + 1)).toInt = pa) (hP : (vs 0 (5 * t + 2)).toInt = P)
    (hfn : ∀ i, i < iM D 0 + qt D 3 → fty D i < qt D 1) (hpN : ∀ u, u < qt D 1 → tPa D u + tPn D u ≤ b + N ∧ 0 ≤ (vs 0 (5 * u + 1)).toInt) (hlo : ∀ j, j < lcn → (lo j).toInt = (lo' j).toInt) (ho : op ≤ 255) :
    ckZ n vs cb lo pa P t lcn ν q op cur f r g = ckO D (ck_lt (qc D) lo' (tPa D t) (tPn D t)) (tPn D t + lcn) (tRt D t) (b + q) op cur f r g := by
  have hqc : qc D = cA := by rw [hD]; rfl
  have hsh : wk_sh (op : Int) < 13 := hW.2.2.2.2.2.2.2.2.2.2.2
  obtain ⟨-, T1, T2, -, T4⟩ := zk_ty hE hD ht
  have n2 := zk_n2 hE hD
  have n3 := zk_n3 hE hD
  have n4 := zk_n4 hE hD
  have n5 := zk_n5 hE hD
  have n0 := zk_n0 hE hD
  have hy : 4 ≤ wk_sh (op : Int) → wk_sh (op : Int) ≤ 7 → (ν (q + 1)).toBitVec.toNat = cV (qc D) (b + q + 1) := fun h1 h2 => by
    rw [hqc]
    exact (hn h1).2.1 (by omega)
  by_cases c1 : 69 ≤ op
  · rw [ckZ_n c1, ckO_n c1]
  by_cases c2 : 65 ≤ op
  · rw [ckZ_k (by omega), ckO_k (by omega)]
  by_cases c3 : 40 ≤ op
  · rw [ckZ_m (by omega), ckO_m (by omega), show n 4 / 3 = iM D 2 + qt D 5 by omega]
    by_cases c4 : op < 63
    · have sh : wk_sh (op : Int) = 7 := by
        unfold wk_sh
        rw [if_neg (by omega), if_neg (by omega), if_pos (by omega), if_neg (by omega)]
      rw [hy (by omega) (by omega)]
    · by_cases hm : 0 < iM D 2 + qt D 5
      · rw [ckMm_m hm, ckMm_m hm]
        by_cases c5 : op = 63
        · rw [ckMx_63 c5, ckMx_63 c5]
        · rw [ckMx_64 (by omega), ckMx_64 (by omega)]
      · rw [ckMm_20 hm, ckMm_20 hm]
  by_cases c4 : 32 ≤ op
  · have sh : wk_sh (op : Int) = 4 := by
      by_cases c5 : op ≤ 36
      · unfold wk_sh
        rw [if_neg (by omega), if_neg (by omega), if_neg (by omega), if_neg (by omega), if_neg (by omega), if_neg (by omega), if_neg (by omega), if_pos (by omega)]
      · exfalso
        have : wk_sh (op : Int) = 13 := by
          unfold wk_sh
          rw [if_neg (by omega), if_neg (by omega), if_neg (by omega), if_neg (by omega), if_neg (by omega), if_neg (by omega), if_neg (by omega), if_neg (by omega), if_neg (by omega), if_neg (by omega)]
        omega
    rw [ckZ_p (by omega), ckO_p (by omega), hy (by omega) (by omega)]
    refine ckPl_cg (by omega) (by omega) (fun h9 => ?_) (fun h9 => zk_va hE hD (by omega))
    unfold ck_lt
    by_cases c5 : cV (qc D) (b + q + 1) < P
    · have := (hpN t ht).1
      rw [if_pos c5, if_pos (by omega), hqc, hCx.1 _ (by rw [hqc] at c5; omega)]
      congr 2
      rw [hqc] at c5
      omega
    · rw [if_neg c5, if_neg (by omega), hlo _ (by omega), show P = tPn D t by omega]
  by_cases c5 : 16 ≤ op
  · rw [ckZ_c (by omega), ckO_c (by omega)]
    by_cases c6 : op = 16
    · rw [hy (by rw [c6]; decide) (by rw [c6]; decide)]
      by_cases h9 : cV (qc D) (b + q + 1) < iM D 0 + qt D 3
      · have hf := (zk_fn hE hD h9).2
        have hu := hfn _ h9
        rw [clZ_16 c6 (by omega), ckCl_16 c6 h9, hf, Int.toNat_natCast]
        exact tpZ_T hE hD hCx hu (hpN _ hu).1 (hpN _ hu).2
      · rw [clZ_16n c6 (by omega), ckCl_16n c6 h9]
    · by_cases c7 : op = 17
      · rw [hy (by rw [c7]; decide) (by rw [c7]; decide)]
        by_cases h9 : 0 < iM D 1 + qt D 4
        · rw [clZ_17 c7 (by omega), ckCl_17 c7 h9, show n 0 / 5 = qt D 1 by omega]
          by_cases h8 : cV (qc D) (b + q + 1) < qt D 1
          · rw [if_pos h8, if_pos h8]
            congr 1
            funext a
            exact tpZ_T hE hD hCx h8 (hpN _ h8).1 (hpN _ h8).2
          · rw [if_neg h8, if_neg h8]
        · rw [clZ_17n c7 (by omega), ckCl_17n c7 h9]
      · unfold clZ ckCl
        simp only [if_neg c6, if_neg c7]
  · rw [ckZ_f (by omega), ckO_f (by omega)]
    refine ckFl_cg (fun h9 => ?_) (fun h9 => ?_) (fun h9 k hk => ?_) T4
    · rcases h9 with h9 | h9 | h9 <;> exact hy (by rw [h9]; decide) (by rw [h9]; decide)
    · have sh : wk_sh (op : Int) = 1 := by rcases h9 with h9 | h9 | h9 <;> (rw [h9]; decide)
      have := (hW.2.1 sh).1
      rw [hqc, hCx.1 _ (by omega)]
      rfl
    · have sh : wk_sh (op : Int) = 5 := by rw [h9]; decide
      have hx := hn (by omega)
      rw [hy (by omega) (by omega), hqc] at hk
      rw [hqc]
      exact hx.2.2.1 sh k hk
end CCF
