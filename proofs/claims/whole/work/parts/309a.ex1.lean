-- the reference's exact numbers: the row of bits
/-- the number that cells a, a + 1, .. hold, m of them -/
def eU (f : Nat → Nat) : Nat → Nat → Nat
  | _, 0 => 0
  | a, m + 1 => f a + 2 * eU f (a + 1) m
theorem eU_cg {f g : Nat → Nat} : ∀ {m a : Nat}, (∀ j, a ≤ j → j < a + m → g j = f j) → eU g a m = eU f a m
  | 0, _, _ => rfl
  | m + 1, a, h => by
    show g a + 2 * eU g (a + 1) m = f a + 2 * eU f (a + 1) m
    rw [h a (by omega) (by omega), eU_cg (m := m) (a := a + 1) (fun j h1 h2 => h j (by omega) (by omega))]
theorem eU_z {f : Nat → Nat} : ∀ {m a : Nat}, (∀ j, a ≤ j → f j = 0) → eU f a m = 0
  | 0, _, _ => rfl
  | m + 1, a, h => by
    show f a + 2 * eU f (a + 1) m = 0
    rw [h a (by omega), eU_z (m := m) (a := a + 1) (fun j h1 => h j (by omega))]
/-- the lower k cells and the others -/
theorem eU_sp {f : Nat → Nat} : ∀ {k m a : Nat}, eU f a (k + m) = eU f a k + 2 ^ k * eU f (a + k) m
  | 0, m, a => by
    rw [Nat.zero_add, Nat.add_zero]
    show _ = 0 + 1 * _
    omega
  | k + 1, m, a => by
    rw [show k + 1 + m = (k + m) + 1 by omega]
    show f a + 2 * eU f (a + 1) (k + m) = f a + 2 * eU f (a + 1) k + 2 ^ (k + 1) * eU f (a + (k + 1)) m
    rw [eU_sp (k := k) (m := m) (a := a + 1), show a + 1 + k = a + (k + 1) by omega, Nat.pow_succ, Nat.mul_add, ← Nat.mul_assoc, Nat.mul_comm 2 (2 ^ k)]
    omega
theorem eU_lt {f : Nat → Nat} (h1 : ∀ j, f j ≤ 1) : ∀ {m a : Nat}, eU f a m < 2 ^ m
  | 0, _ => by show 0 < 1; omega
  | m + 1, a => by
    have ih := eU_lt h1 (m := m) (a := a + 1)
    have := h1 a
    show f a + 2 * eU f (a + 1) m < 2 ^ (m + 1)
    rw [Nat.pow_succ]
    omega
def eX (ex rw_ : Nat) (h : xb_H) : Prop := xb_k h ex = 10 ∧ xb_r h ex 1 = some rw_ ∧ xb_k h rw_ = 100 ∧ xb_n h rw_ = 4400
/-- the row holds f -/
def eK (ex rw_ : Nat) (f : Nat → Nat) (h : xb_H) : Prop :=
  eX ex rw_ h ∧ (xb_i h ex 4 = 0 ∨ xb_i h ex 4 = 1) ∧ ∃ lo hi : Nat, (xb_i h ex 2).toInt = lo ∧ (xb_i h ex 3).toInt = hi ∧ hi < 4400 ∧ lo ≤ 4400 ∧ (∀ j, (xb_i h rw_ j).toInt = f j ∧ f j ≤ 1) ∧ ∀ j, (j < lo ∨ hi < j) → f j = 0
/-- what a method of it may change: integers of ex in F, numbers of ex, the row -/
def eF (ex rw_ : Nat) (F : List Nat) (h h' : xb_H) : Prop := xb_k h' = xb_k h ∧ xb_n h' = xb_n h ∧ xb_r h' = xb_r h ∧ (∀ a, a ≠ ex → a ≠ rw_ → xb_i h' a = xb_i h a) ∧ (∀ a, a ≠ ex → xb_l h' a = xb_l h a) ∧ (∀ j, j ∉ F → xb_i h' ex j = xb_i h ex j) ∧ (9 ∉ F → xb_l h' ex = xb_l h ex)
section EX1
variable {ex rw_ : Nat} {f g : Nat → Nat} {h h' h2 : xb_H} {F F2 : List Nat}
theorem eX.ne (hs : eX ex rw_ h) : ex ≠ rw_ := fun e => by
  have h1 := hs.1
  have h2 := hs.2.2.1
  rw [e, h2] at h1
  cases h1
theorem eF.rf : eF ex rw_ F h h := ⟨rfl, rfl, rfl, fun _ _ _ => rfl, fun _ _ => rfl, fun _ _ => rfl, fun _ => rfl⟩
theorem eF.tr (e1 : eF ex rw_ F h h') (e2 : eF ex rw_ F2 h' h2) : eF ex rw_ (F ++ F2) h h2 := by
  obtain ⟨a1, a2, a3, a4, a5, a6, a7⟩ := e1
  obtain ⟨b1, b2, b3, b4, b5, b6, b7⟩ := e2
  refine ⟨b1.trans a1, b2.trans a2, b3.trans a3, fun a h1 h2 => (b4 a h1 h2).trans (a4 a h1 h2), fun a h1 => (b5 a h1).trans (a5 a h1), fun j hj => ?_, fun hj => ?_⟩
  · rw [List.mem_append, not_or] at hj
    exact (b6 j hj.2).trans (a6 j hj.1)
  · rw [List.mem_append, not_or] at hj
    exact (b7 hj.2).trans (a7 hj.1)
theorem eF.mono (e1 : eF ex rw_ F h h') (hF : ∀ k ∈ F, k ∈ F2) : eF ex rw_ F2 h h' := by
  obtain ⟨a1, a2, a3, a4, a5, a6, a7⟩ := e1
  exact ⟨a1, a2, a3, a4, a5, fun j hj => a6 j (fun h9 => hj (hF j h9)), fun hj => a7 (fun h9 => hj (hF 9 h9))⟩
theorem eF.ext (e1 : eF ex rw_ F h h') : xb_ext h h' := fun a _ => by rw [e1.1, e1.2.1]; exact ⟨rfl, rfl⟩
theorem eX.fr (hs : eX ex rw_ h) (e1 : eF ex rw_ F h h') : eX ex rw_ h' := by
  unfold eX
  rw [e1.1, e1.2.1, e1.2.2.1]
  exact hs
theorem eF.I (hs : eX ex rw_ h) {k : Nat} {x : Int32} : eF ex rw_ [k] h (xb_I h ex k x) := ⟨rfl, rfl, rfl, fun a h1 _ => by rw [xh_iI, if_neg h1], fun a _ => rfl, fun j hj => by rw [xh_iI, if_pos rfl, xh_up, if_neg (fun e => hj (by rw [e]; simp))], fun _ => rfl⟩
theorem eF.R (hs : eX ex rw_ h) {k : Nat} {x : Int32} : eF ex rw_ [] h (xb_I h rw_ k x) := ⟨rfl, rfl, rfl, fun a _ h1 => by rw [xh_iI, if_neg h1], fun a _ => rfl, fun j _ => by rw [xh_iI, if_neg hs.ne], fun _ => rfl⟩
theorem eF.Lx (hs : eX ex rw_ h) {x : Int64} : eF ex rw_ [9] h (xb_L h ex 9 x) := ⟨rfl, rfl, rfl, fun a _ _ => rfl, fun a h1 => by rw [xh_lL, if_neg h1], fun j _ => rfl, fun h9 => absurd (by simp) h9⟩
/-- fields that say nothing of the row -/
theorem eK.I (hk : eK ex rw_ f h) {k : Nat} {x : Int32} (h1 : k ≠ 2) (h2 : k ≠ 3) (h3 : k ≠ 4) : eK ex rw_ f (xb_I h ex k x) := by
  obtain ⟨k1, k2, lo, hi, k3, k4, k5, k6, k7, k8⟩ := hk
  have j : ∀ i, i ≠ k → xb_i (xb_I h ex k x) ex i = xb_i h ex i := fun i hi => by rw [xh_iI, if_pos rfl, xh_up, if_neg hi]
  refine ⟨k1.fr (eF.I k1), by rw [j 4 (by omega)]; exact k2, lo, hi, by rw [j 2 (by omega)]; exact k3, by rw [j 3 (by omega)]; exact k4, k5, k6, fun i => ?_, k8⟩
  rw [xh_iI, if_neg k1.ne.symm]
  exact k7 i
theorem eK.Lx (hk : eK ex rw_ f h) {x : Int64} : eK ex rw_ f (xb_L h ex 9 x) := hk
theorem eK.rs (hk : eK ex rw_ f h) {x : Int32} (hx : x = 0 ∨ x = 1) : eK ex rw_ f (xb_I h ex 4 x) := by
  obtain ⟨k1, k2, lo, hi, k3, k4, k5, k6, k7, k8⟩ := hk
  have j : ∀ i, i ≠ 4 → xb_i (xb_I h ex 4 x) ex i = xb_i h ex i := fun i hi => by rw [xh_iI, if_pos rfl, xh_up, if_neg hi]
  refine ⟨k1.fr (eF.I k1), by rw [xh_iI, if_pos rfl, xh_up, if_pos rfl]; exact hx, lo, hi, by rw [j 2 (by omega)]; exact k3, by rw [j 3 (by omega)]; exact k4, k5, k6, fun i => ?_, k8⟩
  rw [xh_iI, if_neg k1.ne.symm]
  exact k7 i
theorem sp_ereach {x : Int32} {p : Nat} {Qr : xb_H → Prop} (hk : eK ex rw_ f h) (hx : x.toInt = p) (hp : p < 4400) (hQ : ∀ h' : xb_H, eF ex rw_ [2, 3] h h' → xb_i h' rw_ = xb_i h rw_ → (∃ lo hi : Nat, (xb_i h' ex 2).toInt = lo ∧ (xb_i h' ex 3).toInt = hi ∧ hi < 4400 ∧ lo ≤ 4400 ∧ lo ≤ p ∧ p ≤ hi ∧ ∀ j, (j < lo ∨ hi < j) → f j = 0) → Qr h') : w_Exact_reach ex x x h Qr := by
  obtain ⟨k1, k2, lo, hi, k3, k4, k5, k6, k7, k8⟩ := id hk
  have nx : rw_ ≠ ex := k1.ne.symm
  have L17 : ∀ (y : Int32) (lo' : Nat), y.toInt = lo' → lo' ≤ p → lo' ≤ lo → (∀ j, j < lo' → f j = 0) → w_Exact_reach_L17 Qr ex x y ex h := by
    intro y lo' hy h1 h3 h4
    unfold w_Exact_reach_L17 w_Exact_reach_L37
    refine ⟨k1.1, fun h2 e2 => ?_⟩
    have f2 : eF ex rw_ [2] h h2 := by rw [e2]; exact eF.I k1
    have s2 := k1.fr f2
    have i3 : xb_i h2 ex 3 = xb_i h ex 3 := f2.2.2.2.2.2.1 3 (by decide)
    have i2 : xb_i h2 ex 2 = y := by rw [e2, xh_iI, if_pos rfl, xh_up, if_pos rfl]
    have ir : xb_i h2 rw_ = xb_i h rw_ := by rw [e2, xh_iI, if_neg nx]
    have fin : ∀ (z : Int32) (hi' : Nat), z.toInt = hi' → p ≤ hi' → hi ≤ hi' → hi' < 4400 → ∀ h3 : xb_H, h3 = xb_I h2 ex 3 z → Qr h3 := by
      intro z hi' hz g1 g2 g3 h3 e3
      have f3 : eF ex rw_ [3] h2 h3 := by rw [e3]; exact eF.I s2
      refine hQ h3 ((f2.tr f3).mono (by decide)) (by rw [e3, xh_iI, if_neg nx, ir]) ⟨lo', hi', by rw [f3.2.2.2.2.2.1 2 (by decide), i2]; exact hy, by rw [e3, xh_iI, if_pos rfl, xh_up, if_pos rfl]; exact hz, g3, by omega, h1, g1, fun j hj => ?_⟩
      rcases hj with hj | hj
      · exact h4 j hj
      · exact k8 j (.inr (by omega))
    refine ⟨s2.1, fun e => ⟨s2.1, fin _ hi (by rw [i3]; exact k4) ?_ (Nat.le_refl _) k5⟩, fun e => ⟨s2.1, fin _ p hx (Nat.le_refl _) ?_ hp⟩⟩
    · rw [z_le, i3, k4, hx] at e
      omega
    · rw [z_le, i3, k4, hx] at e
      omega
  unfold w_Exact_reach
  refine ⟨k1.1, fun e => L17 _ lo k3 ?_ (Nat.le_refl _) (fun j hj => k8 j (.inl hj)), fun e => L17 _ p hx (Nat.le_refl _) ?_ (fun j hj => k8 j (.inl ?_))⟩
  · rw [z_le, k3, hx] at e
    omega
  · rw [z_le, k3, hx] at e
    omega
  · rw [z_le, k3, hx] at e
    omega
theorem sp_eclear {Qr : xb_H → Prop} (hk : eK ex rw_ f h) (hQ : ∀ h' : xb_H, eF ex rw_ [2, 3, 4] h h' → eK ex rw_ (fun _ => 0) h' → Qr h') : w_Exact_clear ex h Qr := by
  obtain ⟨k1, k2, lo, hi, k3, k4, k5, k6, k7, k8⟩ := id hk
  have nx : rw_ ≠ ex := k1.ne.symm
  have key : ∀ (m : Nat) (x : Int32) (k : Nat) (h1 : xb_H), x.toInt = k → lo ≤ k → hi + 1 ≤ k + m → eF ex rw_ [] h h1 → (∀ j, j < k → xb_i h1 rw_ j = 0) → (∀ j, k ≤ j → xb_i h1 rw_ j = xb_i h rw_ j) → w_Exact_clear_L5 Qr (m + 1) ex x h1 := by
    have fin : ∀ (k : Nat) (h1 : xb_H), hi < k → eF ex rw_ [] h h1 → (∀ j, j < k → xb_i h1 rw_ j = 0) → (∀ j, k ≤ j → xb_i h1 rw_ j = xb_i h rw_ j) → ∃ b3 : Nat, (xb_r h1 ex 1) = some b3 ∧ xb_k h1 b3 = 100 ∧ ∀ h5 : xb_H, h5 = xb_I h1 ex 2 (nI (xb_n h1 b3)) → ∀ h6 : xb_H, h6 = xb_I h5 ex 3 0 → ∀ h7 : xb_H, h7 = xb_I h6 ex 4 0 → Qr h7 := by
      intro k h1 hk2 f1 z1 z2
      have s1 := k1.fr f1
      refine ⟨rw_, s1.2.1, s1.2.2.1, fun h5 e5 h6 e6 h7 e7 => ?_⟩
      have f5 : eF ex rw_ [2] h1 h5 := by rw [e5]; exact eF.I s1
      have s5 := s1.fr f5
      have f6 : eF ex rw_ [3] h5 h6 := by rw [e6]; exact eF.I s5
      have s6 := s5.fr f6
      have f7 : eF ex rw_ [4] h6 h7 := by rw [e7]; exact eF.I s6
      have fA := f1.tr (f5.tr (f6.tr f7))
      refine hQ h7 (fA.mono (by decide)) ⟨k1.fr fA, .inl (by rw [e7, xh_iI, if_pos rfl, xh_up, if_pos rfl]), 4400, 0, ?_, ?_, by omega, by omega, fun j => ⟨?_, Nat.zero_le _⟩, fun _ _ => rfl⟩
      · rw [f7.2.2.2.2.2.1 2 (by decide), f6.2.2.2.2.2.1 2 (by decide), e5, xh_iI, if_pos rfl, xh_up, if_pos rfl, s1.2.2.2]
        rfl
      · rw [f7.2.2.2.2.2.1 3 (by decide), e6, xh_iI, if_pos rfl, xh_up, if_pos rfl]
        rfl
      · rw [e7, xh_iI, if_neg nx, e6, xh_iI, if_neg nx, e5, xh_iI, if_neg nx]
        by_cases h9 : j < k
        · rw [z1 j h9]
          rfl
        · rw [z2 j (by omega), (k7 j).1, k8 j (.inr (by omega))]
    intro m
    induction m with
    | zero =>
      intro x k h1 e1 e2 e3 f1 z1 z2
      unfold w_Exact_clear_L5
      have s1 := k1.fr f1
      refine ⟨s1.1, fun _ => fin k h1 (by omega) f1 z1 z2, fun e => ?_⟩
      rw [z_lt, f1.2.2.2.2.2.1 3 (by simp), k4, e1] at e
      omega
    | succ m ih =>
      intro x k h1 e1 e2 e3 f1 z1 z2
      unfold w_Exact_clear_L5
      have s1 := k1.fr f1
      refine ⟨s1.1, fun e => ?_, fun e => ⟨rw_, s1.2.1, s1.2.2.1, ?_, fun h11 e11 => ?_⟩⟩
      · rw [z_lt, f1.2.2.2.2.2.1 3 (by simp), k4, e1] at e
        exact fin k h1 (by omega) f1 z1 z2
      · rw [z_lt, f1.2.2.2.2.2.1 3 (by simp), k4, e1] at e
        rw [z_in, e1, s1.2.2.2]
        omega
      · rw [z_lt, f1.2.2.2.2.2.1 3 (by simp), k4, e1] at e
        rw [z_cl, e1, Int.toNat_natCast] at e11
        have f11 : eF ex rw_ [] h1 h11 := by rw [e11]; exact eF.R s1
        refine ih (x + 1) (k + 1) h11 (z_inc e1 (by omega)) (by omega) (by omega) ((f1.tr f11).mono (by simp)) (fun j hj => ?_) (fun j hj => ?_)
        · rw [e11, xh_iI, if_pos rfl, xh_up]
          split
          · rfl
          · exact z1 j (by omega)
        · rw [e11, xh_iI, if_pos rfl, xh_up, if_neg (by omega)]
          exact z2 j (by omega)
  unfold w_Exact_clear
  refine ⟨k1.1, fun v2 e2 => ⟨hi + 1 + 1, key (hi + 1) v2 lo h (by rw [e2]; exact k3) (Nat.le_refl _) (by omega) eF.rf (fun j hj => ?_) (fun _ _ => rfl)⟩⟩
  rw [z_eq, (k7 j).1, k8 j (.inl hj)]
  rfl
theorem z_bit {v : Int32} (h0 : 0 ≤ v.toInt) : (vp_nar .byte ((Int32.toInt8 (v &&& 1)).toInt32)).toInt = v.toInt % 2 := by
  have e1 : (v &&& 1).toInt = v.toInt % (2 ^ 1 : Nat) := z_mask v 1 rfl (by omega)
  have e2 : (v &&& 1) = 0 ∨ (v &&& 1) = 1 := by
    rw [z_eq, z_eq, e1]
    simp only [Int32.reduceToInt]
    omega
  rcases e2 with e | e
  · rw [e]
    rw [e] at e1
    simp only [Int32.reduceToInt] at e1
    show (0 : Int) = _
    omega
  · rw [e]
    rw [e] at e1
    simp only [Int32.reduceToInt] at e1
    show (1 : Int) = _
    omega
end EX1
