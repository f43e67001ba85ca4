-- the reference: what its reader reads, as functions of the bytes
def ub (cb : Nat → Int32) (p : Nat) : Int32 := cb p &&& 255
def rdc (cb : Nat → Int32) : Nat → Nat → Int64 → Int32 → Option (Nat × Int64)
  | 0, _, _, _ => none
  | m + 1, p, v, k => if k = 4 ∧ ¬ ub cb p ≤ 15 then none else if 128 ≤ ub cb p then rdc cb m (p + 1) (v ||| xb_lshl (Int32.toInt64 (ub cb p &&& 127)) (7 * k)) (k + 1) else some (p + 1, v ||| xb_lshl (Int32.toInt64 (ub cb p &&& 127)) (7 * k))
/-- a count: where it ends, its value -/
def rC (cb : Nat → Int32) (p : Nat) : Option (Nat × Int64) := rdc cb 5 p 0 0
/-- a signed number of at most m bytes: where it ends -/
def rds (cb : Nat → Int32) (bits : Int32) : Nat → Nat → Option Nat
  | 0, _ => none
  | m + 1, p => if m = 0 ∧ ¬ ((bits = 32 ∧ (ub cb p < 8 ∨ (¬ ub cb p < 120 ∧ ¬ 128 ≤ ub cb p))) ∨ (¬ bits = 32 ∧ (ub cb p = 0 ∨ ub cb p = 127))) then none else if 128 ≤ ub cb p then rds cb bits m (p + 1) else some (p + 1)
/-- many counts -/
def cks (cb : Nat → Int32) : Nat → Nat → Option Nat
  | 0, p => some p
  | k + 1, p => match rC cb p with
    | some (q, _) => cks cb k q
    | none => none
/-- what is written with an instruction of a shape -/
def rW (cb : Nat → Int32) (s p q : Nat) : Prop :=
  (s = 0 ∨ s = 2 ∨ s = 3 → q = p) ∧ (s = 1 → q = p + 1 ∧ (ub cb p = 64 ∨ (¬ ub cb p < 124 ∧ ¬ 127 < ub cb p))) ∧ (s = 4 → ∃ x, rC cb p = some (q, x)) ∧
  (s = 5 → ∃ p1 L p2 x, rC cb p = some (p1, L) ∧ cks cb L.toInt.toNat p1 = some p2 ∧ rC cb p2 = some (q, x)) ∧ (s = 6 → ∃ p1 x, rC cb p = some (p1, x) ∧ ub cb p1 = 0 ∧ q = p1 + 1) ∧
  (s = 7 → ∃ p1 x y, rC cb p = some (p1, x) ∧ rC cb p1 = some (q, y)) ∧ (s = 8 → ub cb p = 0 ∧ q = p + 1) ∧ (s = 9 → rds cb 32 5 p = some q) ∧ (s = 10 → rds cb 64 10 p = some q) ∧ (s = 11 → q = p + 4) ∧ (s = 12 → q = p + 8) ∧ s < 13
/-- the notes of the instruction at q tell what is written there; it ends ahead of q' -/
def nR (cb ν : Nat → Int32) (q q' : Nat) : Prop :=
  rW cb (wk_sh ((cb q).toInt % 256)) (q + 1) q' ∧ (4 ≤ wk_sh ((cb q).toInt % 256) → (ν q).toInt = q') ∧
  (wk_sh ((cb q).toInt % 256) = 4 ∨ wk_sh ((cb q).toInt % 256) = 5 ∨ wk_sh ((cb q).toInt % 256) = 6 → ∃ q1 x, rC cb (q + 1) = some (q1, x) ∧ (ν (q + 1)).toBitVec.toNat = x.toBitVec.toNat ∧ (wk_sh ((cb q).toInt % 256) = 5 → ∀ k, k ≤ x.toInt.toNat → ∃ pk q2 y, cks cb k q1 = some pk ∧ rC cb pk = some (q2, y) ∧ (ν (q + 2 + k)).toBitVec.toNat = y.toBitVec.toNat))
/-- a walk over the instructions of a list -/
def wkR (cb ν : Nat → Int32) (E : Nat) : Nat → Nat → Prop
  | 0, _ => False
  | m + 1, p => p < E ∧ ∃ q', nR cb ν p q' ∧ (p + 1 = E ∨ (q' < E ∧ wkR cb ν E m q'))
section MR1
variable {cb ν ν' nu : Nat → Int32} {p q q' s E : Nat} {x y : Int64}
theorem ub_r : 0 ≤ (ub cb p).toInt ∧ (ub cb p).toInt < 256 := by
  unfold ub
  rw [z_255]
  omega
theorem rdc_b : ∀ (m p : Nat) (v : Int64) (k : Int32) (q : Nat) (x : Int64), rdc cb m p v k = some (q, x) → m ≤ 5 → k.toInt = 5 - m → v.toBitVec.toNat < 2 ^ (7 * (5 - m)) → p < q ∧ q ≤ p + m ∧ x.toBitVec.toNat < 4294967296
  | 0, p, v, k, q, x, h, _, _, _ => by cases h
  | m + 1, p, v, k, q, x, h, h1, h2, h3 => by
    have hu := ub_r (cb := cb) (p := p)
    have m1 : (ub cb p &&& 127).toInt = (ub cb p).toInt % 128 := z_mask _ 7 rfl (by omega)
    obtain ⟨w, hw⟩ : ∃ w : Nat, (ub cb p).toInt % 128 = w := ⟨((ub cb p).toInt % 128).toNat, by omega⟩
    have k7 : (7 * k).toInt = (7 * (4 - m) : Nat) := by
      rw [Int32.toInt_mul, z_bm, h2]
      simp only [Int32.reduceToInt]
      omega
    have m2 : (Int32.toInt64 (ub cb p &&& 127)).toBitVec.toNat = w := by
      have e1 := Z_nat (Int32.toInt64 (ub cb p &&& 127))
      rw [Z_of32, m1] at e1
      omega
    have m3 := Z_shl (x := Int32.toInt64 (ub cb p &&& 127)) k7 (by omega)
    rw [m2] at m3
    unfold rdc at h
    split at h
    · cases h
    · rename_i hc
      have b4 : m = 0 → w ≤ 15 := fun hm => by
        rcases Classical.em (ub cb p ≤ 15) with h9 | h9
        · rw [z_le] at h9
          simp only [Int32.reduceToInt] at h9
          omega
        · exact absurd ⟨by rw [z_eq, h2, hm]; rfl, h9⟩ hc
      have b5 : w * 2 ^ (7 * (4 - m)) < 2 ^ (min 32 (7 * (4 - m) + 7)) := by
        have : m = 0 ∨ m = 1 ∨ m = 2 ∨ m = 3 ∨ m = 4 := by omega
        rcases this with e | e | e | e | e <;> subst e <;> simp <;> omega
      have b6 : w * 2 ^ (7 * (4 - m)) < 18446744073709551616 := by
        refine Nat.lt_of_lt_of_le b5 ?_
        exact Nat.le_trans (Nat.pow_le_pow_right (by omega) (Nat.min_le_left _ _)) (by decide)
      rw [Nat.mod_eq_of_lt b6] at m3
      have b7 : v.toBitVec.toNat < 2 ^ (min 32 (7 * (4 - m) + 7)) := by
        refine Nat.lt_of_lt_of_le h3 (Nat.pow_le_pow_right (by omega) ?_)
        omega
      have b8 : (v ||| xb_lshl (Int32.toInt64 (ub cb p &&& 127)) (7 * k)).toBitVec.toNat < 2 ^ (min 32 (7 * (4 - m) + 7)) := by
        rw [Z_or, m3]
        exact Nat.or_lt_two_pow b7 b5
      split at h
      · rename_i h9
        have hm : m ≠ 0 := fun e => by
          have := b4 e
          rw [z_le] at h9
          simp only [Int32.reduceToInt] at h9
          rcases Classical.em (ub cb p ≤ 15) with h8 | h8
          · rw [z_le] at h8
            simp only [Int32.reduceToInt] at h8
            omega
          · exact absurd ⟨by rw [z_eq, h2, e]; rfl, h8⟩ hc
        have k1 : (k + 1).toInt = 5 - m := by
          rw [z_add, h2]
          simp only [Int32.reduceToInt]
          omega
        obtain ⟨g1, g2, g3⟩ := rdc_b m (p + 1) _ (k + 1) q x h (by omega) k1 (Nat.lt_of_lt_of_le b8 (Nat.pow_le_pow_right (by omega) (by omega)))
        exact ⟨by omega, by omega, g3⟩
      · simp only [Option.some.injEq, Prod.mk.injEq] at h
        obtain ⟨e1, e2⟩ := h
        rw [← e2]
        exact ⟨by omega, by omega, Nat.lt_of_lt_of_le b8 (Nat.le_trans (Nat.pow_le_pow_right (by omega) (Nat.min_le_left _ _)) (by decide))⟩
theorem rC_b (h : rC cb p = some (q, x)) : p < q ∧ q ≤ p + 5 ∧ x.toBitVec.toNat < 4294967296 ∧ x.toInt = x.toBitVec.toNat := by
  obtain ⟨h1, h2, h3⟩ := rdc_b 5 p 0 0 q x h (by omega) rfl (by decide)
  exact ⟨h1, h2, h3, Z_nn rfl (by omega)⟩
theorem rds_b {b : Int32} : ∀ {m p q : Nat}, rds cb b m p = some q → p < q ∧ q ≤ p + m
  | 0, p, q, h => by cases h
  | m + 1, p, q, h => by
    unfold rds at h
    split at h
    · cases h
    · split at h
      · have := rds_b h
        omega
      · simp only [Option.some.injEq] at h
        omega
theorem cks_b : ∀ {k p q : Nat}, cks cb k p = some q → p + k ≤ q
  | 0, p, q, h => by
    simp only [cks, Option.some.injEq] at h
    omega
  | k + 1, p, q, h => by
    unfold cks at h
    split at h
    · rename_i a b e
      have h1 := rC_b e
      have h2 := cks_b h
      omega
    · cases h
theorem cks_pre : ∀ {L k p q : Nat}, cks cb L p = some q → k ≤ L → ∃ pk, cks cb k p = some pk ∧ cks cb (L - k) pk = some q
  | L, 0, p, q, h, _ => ⟨p, rfl, h⟩
  | 0, k + 1, p, q, h, hk => by omega
  | L + 1, k + 1, p, q, h, hk => by
    unfold cks at h
    split at h
    · rename_i a b e
      obtain ⟨pk, h1, h2⟩ := cks_pre h (show k ≤ L by omega)
      refine ⟨pk, ?_, by rw [show L + 1 - (k + 1) = L - k by omega]; exact h2⟩
      show (match rC cb p with | some (q, _) => cks cb k q | none => none) = _
      rw [e]
      exact h1
    · cases h
theorem cks_all {L p q : Nat} (h : cks cb L p = some q) {z : Nat × Int64} (hz : rC cb q = some z) {k : Nat} (hk : k ≤ L) : ∃ pk q2 y, cks cb k p = some pk ∧ rC cb pk = some (q2, y) := by
  obtain ⟨pk, h1, h2⟩ := cks_pre h hk
  rcases Nat.lt_or_ge k L with h3 | h3
  · obtain ⟨j, hj⟩ : ∃ j, L - k = j + 1 := ⟨L - k - 1, by omega⟩
    rw [hj] at h2
    unfold cks at h2
    split at h2
    · rename_i a b e
      exact ⟨pk, a, b, h1, e⟩
    · cases h2
  · have : L - k = 0 := by omega
    rw [this] at h2
    simp only [cks, Option.some.injEq] at h2
    subst h2
    exact ⟨pk, z.1, z.2, h1, hz⟩
theorem rW_b (h : rW cb s p q) : p ≤ q ∧ (4 ≤ s → p < q) ∧ (s = 6 ∨ s = 7 ∨ s = 11 ∨ s = 12 → p + 2 ≤ q) := by
  obtain ⟨h0, h1, h4, h5, h6, h7, h8, h9, h10, h11, h12, h13⟩ := h
  have : s = 0 ∨ s = 1 ∨ s = 2 ∨ s = 3 ∨ s = 4 ∨ s = 5 ∨ s = 6 ∨ s = 7 ∨ s = 8 ∨ s = 9 ∨ s = 10 ∨ s = 11 ∨ s = 12 := by omega
  rcases this with e | e | e | e | e | e | e | e | e | e | e | e | e
  · have := h0 (by omega); omega
  · have := (h1 e).1; omega
  · have := h0 (by omega); omega
  · have := h0 (by omega); omega
  · obtain ⟨x, a1⟩ := h4 e
    have := rC_b a1
    omega
  · obtain ⟨p1, L, p2, x, a1, a2, a3⟩ := h5 e
    have := rC_b a1
    have := cks_b a2
    have := rC_b a3
    omega
  · obtain ⟨p1, x, a1, a2, a3⟩ := h6 e
    have := rC_b a1
    omega
  · obtain ⟨p1, x, y, a1, a2⟩ := h7 e
    have := rC_b a1
    have := rC_b a2
    omega
  · have := (h8 e).2; omega
  · have := rds_b (h9 e); omega
  · have := rds_b (h10 e); omega
  · have := h11 e; omega
  · have := h12 e; omega
theorem rW_f (h : rW cb s p q) (h' : rW cb s p q') : q = q' := by
  obtain ⟨h0, h1, h4, h5, h6, h7, h8, h9, h10, h11, h12, h13⟩ := h
  obtain ⟨g0, g1, g4, g5, g6, g7, g8, g9, g10, g11, g12, g13⟩ := h'
  have : s = 0 ∨ s = 1 ∨ s = 2 ∨ s = 3 ∨ s = 4 ∨ s = 5 ∨ s = 6 ∨ s = 7 ∨ s = 8 ∨ s = 9 ∨ s = 10 ∨ s = 11 ∨ s = 12 := by omega
  rcases this with e | e | e | e | e | e | e | e | e | e | e | e | e
  · rw [h0 (by omega), g0 (by omega)]
  · rw [(h1 e).1, (g1 e).1]
  · rw [h0 (by omega), g0 (by omega)]
  · rw [h0 (by omega), g0 (by omega)]
  · obtain ⟨x, a1⟩ := h4 e
    obtain ⟨y, b1⟩ := g4 e
    rw [a1] at b1
    simp only [Option.some.injEq, Prod.mk.injEq] at b1
    exact b1.1
  · obtain ⟨p1, L, p2, x, a1, a2, a3⟩ := h5 e
    obtain ⟨p1', L', p2', x', b1, b2, b3⟩ := g5 e
    rw [a1] at b1
    simp only [Option.some.injEq, Prod.mk.injEq] at b1
    obtain ⟨e1, e2⟩ := b1
    subst e1 e2
    rw [a2] at b2
    simp only [Option.some.injEq] at b2
    subst b2
    rw [a3] at b3
    simp only [Option.some.injEq, Prod.mk.injEq] at b3
    exact b3.1
  · obtain ⟨p1, x, a1, a2, a3⟩ := h6 e
    obtain ⟨p1', x', b1, b2, b3⟩ := g6 e
    rw [a1] at b1
    simp only [Option.some.injEq, Prod.mk.injEq] at b1
    omega
  · obtain ⟨p1, x, y, a1, a2⟩ := h7 e
    obtain ⟨p1', x', y', b1, b2⟩ := g7 e
    rw [a1] at b1
    simp only [Option.some.injEq, Prod.mk.injEq] at b1
    obtain ⟨e1, e2⟩ := b1
    subst e1 e2
    rw [a2] at b2
    simp only [Option.some.injEq, Prod.mk.injEq] at b2
    exact b2.1
  · rw [(h8 e).2, (g8 e).2]
  · have a := h9 e
    rw [g9 e] at a
    simp only [Option.some.injEq] at a
    exact a.symm
  · have a := h10 e
    rw [g10 e] at a
    simp only [Option.some.injEq] at a
    exact a.symm
  · rw [h11 e, g11 e]
  · rw [h12 e, g12 e]
theorem z_32 {x : Int64} (h : x.toBitVec.toNat < 4294967296) : (Int64.toInt32 x).toBitVec.toNat = x.toBitVec.toNat := by
  have h1 := Z_nat x
  have h2 := Z_rg x
  have h3 := z_of64 x
  have h4 : ((Int64.toInt32 x).toBitVec.toNat : Int) = (Int64.toInt32 x).toInt % 4294967296 := by
    have h5 : (Int64.toInt32 x).toInt = (Int64.toInt32 x).toBitVec.toInt := rfl
    rw [h5, BitVec.toInt_eq_toNat_cond]
    have := (Int64.toInt32 x).toBitVec.isLt
    split <;> omega
  omega
/-- notes for what is written with an instruction -/
theorem nR_ex (ν : Nat → Int32) (hs : wk_sh ((cb p).toInt % 256) = s) (h4 : 4 ≤ s) (h : rW cb s (p + 1) q) (hq : q < 2147483648) : ∃ ν' : Nat → Int32, rd_op s p q ν ν' ∧ ∀ nu : Nat → Int32, (∀ j, p ≤ j → j < q → nu j = ν' j) → nR cb nu p q := by
  have hb := rW_b h
  have hpq : p + 2 ≤ q := by have := hb.2.1 h4; omega
  obtain ⟨lab, hlab⟩ : ∃ lab : Nat → Int64, ∀ k, lab k = (match rC cb (p + 1) with | some (q1, _) => (match cks cb k q1 with | some pk => (match rC cb pk with | some (_, y) => y | none => 0) | none => 0) | none => 0) := ⟨_, fun _ => rfl⟩
  obtain ⟨v1, hv1⟩ : ∃ v1 : Int64, v1 = (match rC cb (p + 1) with | some (_, x) => x | none => 0) := ⟨_, rfl⟩
  have hl5 : ∀ _ : Unit, s = 5 → ∃ q1 x, rC cb (p + 1) = some (q1, x) ∧ v1 = x ∧ x.toBitVec.toNat < 4294967296 ∧ x.toInt = x.toBitVec.toNat ∧ p + 2 + x.toBitVec.toNat < q ∧ ∀ k, k ≤ x.toInt.toNat → ∃ pk q2 y, cks cb k q1 = some pk ∧ rC cb pk = some (q2, y) ∧ lab k = y ∧ y.toBitVec.toNat < 4294967296 := by
    intro _ e
    obtain ⟨p1, L, p2, x, a1, a2, a3⟩ := h.2.2.2.1 e
    have b1 := rC_b a1
    have b2 := cks_b a2
    have b3 := rC_b a3
    refine ⟨p1, L, a1, by rw [hv1, a1], b1.2.2.1, b1.2.2.2, by omega, fun k hk => ?_⟩
    obtain ⟨pk, q2, y, c1, c2⟩ := cks_all a2 a3 hk
    refine ⟨pk, q2, y, c1, c2, ?_, (rC_b c2).2.2.1⟩
    rw [hlab, a1]
    dsimp only
    rw [c1]
    dsimp only
    rw [c2]
  have hl4 : ∀ _ : Unit, s = 4 ∨ s = 5 ∨ s = 6 → ∃ q1 x, rC cb (p + 1) = some (q1, x) ∧ v1 = x ∧ x.toBitVec.toNat < 4294967296 := by
    intro _ e
    rcases e with e | e | e
    · obtain ⟨x, a1⟩ := h.2.2.1 e
      exact ⟨q, x, a1, by rw [hv1, a1], (rC_b a1).2.2.1⟩
    · obtain ⟨q1, x, a1, a2, a3, -⟩ := hl5 () e
      exact ⟨q1, x, a1, a2, a3⟩
    · obtain ⟨p1, x, a1, -⟩ := h.2.2.2.2.1 e
      exact ⟨p1, x, a1, by rw [hv1, a1], (rC_b a1).2.2.1⟩
  refine ⟨fun j => if j < p ∨ q ≤ j then ν j else if j = p then nI q else if j = p + 1 then Int64.toInt32 v1 else Int64.toInt32 (lab (j - (p + 2))), ⟨fun j hj => if_pos (.inl hj), fun j hj => if_pos (.inr hj), ?_, hpq, fun e => ?_, fun e => by have := hb.2.2 e; omega, h.2.2.2.2.2.2.2.2.2.2.2⟩, fun nu hnu => ⟨by rw [hs]; exact h, fun _ => ?_, fun e => ?_⟩⟩
  · show (if p < p ∨ q ≤ p then ν p else if p = p then nI q else _).toInt = _
    rw [if_neg (by omega), if_pos rfl]
    exact z_nI hq
  · obtain ⟨q1, x, a1, a2, a3, a4, a5, a6⟩ := hl5 () e
    have e0 : (if p + 1 < p ∨ q ≤ p + 1 then ν (p + 1) else if p + 1 = p then nI q else if p + 1 = p + 1 then Int64.toInt32 v1 else Int64.toInt32 (lab (p + 1 - (p + 2)))) = Int64.toInt32 x := by rw [if_neg (by omega), if_neg (by omega), if_pos rfl, a2]
    dsimp only
    rw [e0]
    have e1 : (Int64.toInt32 x).toInt = x.toBitVec.toNat := by
      rw [z_of64, a4]
      omega
    rw [e1]
    omega
  · rw [hnu p (by omega) (by omega)]
    show (if p < p ∨ q ≤ p then ν p else if p = p then nI q else _).toInt = _
    rw [if_neg (by omega), if_pos rfl]
    exact z_nI hq
  · rw [hs] at e ⊢
    obtain ⟨q1, x, a1, a2, a3⟩ := hl4 () e
    refine ⟨q1, x, a1, ?_, fun e5 k hk => ?_⟩
    · rw [hnu (p + 1) (by omega) (by omega)]
      dsimp only
      rw [if_neg (by omega), if_neg (by omega), if_pos rfl, a2]
      exact z_32 a3
    · obtain ⟨q1', x', b1, b2, b3, b4, b5, b6⟩ := hl5 () e5
      rw [a1] at b1
      simp only [Option.some.injEq, Prod.mk.injEq] at b1
      obtain ⟨e1, e2⟩ := b1
      subst e1 e2
      obtain ⟨pk, q2, y, c1, c2, c3, c4⟩ := b6 k hk
      refine ⟨pk, q2, y, c1, c2, ?_⟩
      rw [hnu (p + 2 + k) (by omega) (by omega)]
      dsimp only
      rw [if_neg (by omega), if_neg (by omega), if_neg (by omega), show p + 2 + k - (p + 2) = k by omega, c3]
      exact z_32 c4
end MR1
