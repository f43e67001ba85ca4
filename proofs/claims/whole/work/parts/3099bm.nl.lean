-- equality: results keep their width
section NL1
variable {p b a x y N : Nat} {τ : Int} {e : Int}
theorem rnk_le {N d : Nat} : rnk N d ≤ N / 2 ^ d + 1 := by
  unfold rnk
  split <;> omega
theorem rnF_le (hb : fpb τ p b) : rnF p b N e ≤ fI_ p b := by
  have hp : 2 ≤ p ∧ 1 ≤ b := by
    unfold fpb at hb
    omega
  have pw : 2 ^ p = 2 * 2 ^ (p - 1) := by
    obtain ⟨q, rfl⟩ : ∃ q, p = q + 1 := ⟨p - 1, by omega⟩
    rw [Nat.pow_succ, Nat.mul_comm]
    rfl
  have pp : 0 < 2 ^ (p - 1) := Nat.two_pow_pos _
  have hN : N < 2 ^ (N.log2 + 1) := Nat.lt_log2_self
  unfold rnF fI_
  split
  · exact Nat.le_refl _
  · rename_i h1
    split
    · rename_i h2
      have u : (if p - 1 ≤ N.log2 then rnk N (N.log2 - (p - 1)) else N * 2 ^ (p - 1 - N.log2)) ≤ 2 * 2 ^ (p - 1) := by
        split
        · rename_i h3
          refine Nat.le_trans rnk_le ?_
          rw [← pw]
          refine Nat.succ_le_of_lt ((Nat.div_lt_iff_lt_mul (Nat.two_pow_pos _)).mpr ?_)
          rw [← Nat.pow_add, show p + (N.log2 - (p - 1)) = N.log2 + 1 by omega]
          exact hN
        · rename_i h3
          have := Nat.mul_le_mul_right (2 ^ (p - 1 - N.log2)) (Nat.le_of_lt hN)
          rw [← Nat.pow_add, show N.log2 + 1 + (p - 1 - N.log2) = p by omega, pw] at this
          exact this
      have w : (e + (N.log2 : Int) + b - 1).toNat ≤ 2 * b - 1 := by omega
      have w2 := Nat.mul_le_mul_right (2 ^ (p - 1)) w
      have w3 : (2 * b + 1) * 2 ^ (p - 1) = (2 * b - 1) * 2 ^ (p - 1) + 2 * 2 ^ (p - 1) := by
        rw [← Nat.add_mul]
        congr 1
        omega
      omega
    · rename_i h2
      have g1 : 2 ^ (p - 1) ≤ (2 * b + 1) * 2 ^ (p - 1) := Nat.le_mul_of_pos_left _ (by omega)
      split
      · rename_i h3
        refine Nat.le_trans (Nat.le_trans rnk_le (Nat.succ_le_of_lt ((Nat.div_lt_iff_lt_mul (Nat.two_pow_pos _)).mpr ?_))) g1
        rw [← Nat.pow_add]
        exact Nat.lt_of_lt_of_le hN (Nat.pow_le_pow_right (by decide) (by omega))
      · rename_i h3
        refine Nat.le_trans (Nat.le_trans (Nat.mul_le_mul_right _ (Nat.le_of_lt hN)) ?_) g1
        rw [← Nat.pow_add]
        exact Nat.pow_le_pow_right (by decide) (by omega)
theorem fI_lt (hb : fpb τ p b) : fI_ p b < fS p b := by
  obtain ⟨k, -, -, -, -, h⟩ := hb.w
  exact h
/-- numbers of the format's width -/
theorem fW_or (hb : fpb τ p b) (hx : fW p b x) (hy : fW p b y) : fW p b (x ||| y) := by
  obtain ⟨k, e, -⟩ := hb.w
  unfold fW at *
  rw [e, show 2 * 2 ^ k = 2 ^ (k + 1) by rw [Nat.pow_succ, Nat.mul_comm]] at hx hy ⊢
  exact Nat.or_lt_two_pow hx hy
theorem fW_and (hx : fW p b x) : fW p b (x &&& y) := by
  unfold fW at *
  exact Nat.lt_of_le_of_lt Nat.and_le_left hx
theorem fW_and2 (hy : fW p b y) : fW p b (x &&& y) := by
  unfold fW at *
  exact Nat.lt_of_le_of_lt Nat.and_le_right hy
theorem fW_xor (hb : fpb τ p b) (hx : fW p b x) (hy : fW p b y) : fW p b (x ^^^ y) := by
  obtain ⟨k, e, -⟩ := hb.w
  unfold fW at *
  rw [e, show 2 * 2 ^ k = 2 ^ (k + 1) by rw [Nat.pow_succ, Nat.mul_comm]] at hx hy ⊢
  exact Nat.xor_lt_two_pow hx hy
theorem fW_S (hb : fpb τ p b) : fW p b (fS p b) := by
  have := Nat.lt_of_le_of_lt (Nat.zero_le _) (fI_lt hb)
  unfold fW
  omega
theorem fW_0 (hb : fpb τ p b) : fW p b 0 := by
  have := fW_S hb
  unfold fW at *
  omega
theorem fW_lo (hb : fpb τ p b) (h : x ≤ fI_ p b) : fW p b x := by
  have := fI_lt hb
  unfold fW
  omega
theorem fW_mg (hb : fpb τ p b) : fW p b (fmg p b a) := by
  have := fmg_lt (a := a) hb
  unfold fW
  omega
theorem fW_rn (hb : fpb τ p b) : fW p b (rnF p b N e) := fW_lo hb (rnF_le hb)
theorem fW_sg (hb : fpb τ p b) : fW p b (fsg p b a) := by
  unfold fsg
  split
  · exact fW_0 hb
  · exact fW_S hb
theorem fW_sp (hb : fpb τ p b) : fW p b (fsp p b x y) := by
  unfold fsp
  split
  · exact fW_0 hb
  · exact fW_S hb
theorem fW_nn (hb : fpb τ p b) : fW p b (fnn p b) := by
  rcases hb with ⟨-, rfl, rfl⟩ | ⟨-, rfl, rfl⟩ <;> (unfold fW; decide)
theorem fW_ad (hb : fpb τ p b) (hx : fW p b x) (hy : fW p b y) : fW p b (fad p b x y) := by
  unfold fad faF
  repeat' split
  all_goals first | exact hx | exact hy | exact fW_nn hb | exact fW_0 hb | exact fW_and hx | exact fW_or hb (fW_sg hb) (fW_rn hb)
theorem fW_mu (hb : fpb τ p b) : fW p b (fmu p b x y) := by
  unfold fmu
  repeat' split
  all_goals first | exact fW_nn hb | exact fW_sp hb | exact fW_or hb (fW_sp hb) (fW_rn hb) | exact fW_or hb (fW_sp hb) (fW_lo hb (Nat.le_refl _))
theorem fW_dv (hb : fpb τ p b) : fW p b (fdv p b x y) := by
  unfold fdv
  repeat' split
  all_goals first | exact fW_nn hb | exact fW_sp hb | exact fW_or hb (fW_sp hb) (fW_rn hb) | exact fW_or hb (fW_sp hb) (fW_lo hb (Nat.le_refl _))
theorem fW_rt (hb : fpb τ p b) (hx : fW p b x) : fW p b (frt p b x) := by
  unfold frt
  repeat' split
  all_goals first | exact hx | exact fW_nn hb | exact fW_rn hb
theorem fW_rd (hb : fpb τ p b) {w : Nat} (hx : fW p b x) : fW p b (frd p b w x) := by
  unfold frd
  split
  · exact hx
  · refine fW_or hb (fW_sg hb) ?_
    split
    · exact fW_0 hb
    · exact fW_rn hb
theorem fW_r1 (hb : fpb τ p b) {w : Nat} (hx : fW p b x) : fW p b (fr1 p b w x) := by
  unfold fr1
  repeat' split
  all_goals first | exact fW_mg hb | exact fW_xor hb hx (fW_S hb) | exact fW_rt hb hx | exact fW_nn hb | exact fW_rd hb hx
theorem fW_r2 (hb : fpb τ p b) {w : Nat} (hx : fW p b x) (hy : fW p b y) : fW p b (fr2 p b w x y) := by
  unfold fr2 flo fgr
  repeat' split
  all_goals first | exact fW_or hb (fW_mg hb) (fW_and hy) | exact fW_nn hb | exact fW_ad hb hx hy | exact fW_ad hb hx (fW_xor hb hy (fW_S hb)) | exact fW_mu hb | exact fW_dv hb | exact fW_or hb hx hy | exact fW_and hx | exact hx | exact hy
theorem fW_ow (hb : fpb τ p b) {ng : Prop} [Decidable ng] : fW p b (fow p b ng N) := by
  unfold fow
  split
  · exact fW_0 hb
  · refine fW_or hb ?_ (fW_rn hb)
    split
    · exact fW_S hb
    · exact fW_0 hb
theorem fW_cv {p2 b2 : Nat} {τ2 : Int} (hb : fpb τ2 p2 b2) : fW p2 b2 (fcv p b p2 b2 x) := by
  unfold fcv
  split
  · exact fW_nn hb
  · refine fW_or hb ?_ ?_
    · split
      · exact fW_0 hb
      · exact fW_S hb
    · split
      · exact fW_lo hb (Nat.le_refl _)
      · split
        · exact fW_0 hb
        · exact fW_rn hb
/-- a number by its bits -/
def nI64 (n : Nat) : Int64 := Int64.ofBitVec (BitVec.ofNat 64 n)
theorem nI64_e {r : Int64} {n : Nat} (h : r.toBitVec.toNat = n) : r = nI64 n := by
  unfold nI64
  rw [← h]
  refine Int64.toBitVec_inj.mp ?_
  show r.toBitVec = BitVec.ofNat 64 r.toBitVec.toNat
  simp
theorem nI64_n {n : Nat} (h : n < 2 ^ 64) : (nI64 n).toBitVec.toNat = n := by
  show (BitVec.ofNat 64 n).toNat = n
  rw [BitVec.toNat_ofNat]
  exact Nat.mod_eq_of_lt h
/-- what an instruction that reckons gives -/
noncomputable def nmI (o a c : Nat) : Int64 := nI64 (nmv o a c % 2 ^ nmr o)
theorem nmI_e {o a c : Nat} {r : Int64} (h : r.toBitVec.toNat = nmv o a c) (hr : nmr o = 32 → nmv o a c < 4294967296) : r = nmI o a c := by
  unfold nmI
  refine nI64_e ?_
  rw [h]
  refine (Nat.mod_eq_of_lt ?_).symm
  have c : nmr o = 32 ∨ nmr o = 64 := by
    unfold nmr
    split
    · exact .inl rfl
    · exact .inr rfl
  rcases c with c | c
  · rw [c]
    exact hr c
  · rw [c, ← h]
    exact r.toBitVec.isLt
end NL1
