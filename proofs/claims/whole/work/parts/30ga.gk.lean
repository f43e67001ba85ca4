-- equality: memories
theorem bm8 (x : Int) : x.bmod (2 ^ 8) = (x + 128) % 256 - 128 := by
  rw [Int.bmod_def]
  simp only [Nat.reducePow]
  omega
theorem bm16 (x : Int) : x.bmod (2 ^ 16) = (x + 32768) % 65536 - 32768 := by
  rw [Int.bmod_def]
  simp only [Nat.reducePow]
  omega
theorem s8_t (v : Int64) : (Int32.toInt64 ((Int32.toInt8 (Int64.toInt32 v)).toInt32)).toInt = (v.toInt + 128) % 256 - 128 := by
  rw [Z_of32, Int8.toInt_toInt32, Int32.toInt_toInt8, bm8, z_of64]
  omega
theorem s16_t (v : Int64) : (Int32.toInt64 ((Int32.toInt16 (Int64.toInt32 v)).toInt32)).toInt = (v.toInt + 32768) % 65536 - 32768 := by
  rw [Z_of32, Int16.toInt_toInt32, Int32.toInt_toInt16, bm16, z_of64]
  omega
theorem s32_t (v : Int64) : (Int32.toInt64 (Int64.toInt32 v)).toInt = (v.toInt + 2147483648) % 4294967296 - 2147483648 := by
  rw [Z_of32, z_of64]
/-- moved up and down again -/
theorem ud_t {r : Int64} {s : Int32} {k n : Nat} (hn : r.toBitVec.toNat = n) (hs : s.toInt = k) (hk : k < 64) : ∃ m : Int, (m = (n * 2 ^ k % 18446744073709551616 : Nat) ∨ m + 18446744073709551616 = (n * 2 ^ k % 18446744073709551616 : Nat)) ∧ -9223372036854775808 ≤ m ∧ m < 9223372036854775808 ∧ (xb_lshr (xb_lshl r s) s).toInt = m / (2 ^ k : Nat) := by
  have h1 := Z_shl (x := r) hs hk
  rw [hn] at h1
  have h2 := Z_nat (xb_lshl r s)
  have h3 := Z_rg (xb_lshl r s)
  refine ⟨(xb_lshl r s).toInt, ?_, h3.1, h3.2, Z_sar hs hk⟩
  rw [h1] at h2
  omega
theorem ud_8 {r : Int64} {s : Int32} (hn : r.toBitVec.toNat < 256) (hs : s.toInt = 56) : (xb_lshr (xb_lshl r s) s).toInt = (r.toInt + 128) % 256 - 128 := by
  obtain ⟨m, h1, h2, h3, h4⟩ := ud_t (n := r.toBitVec.toNat) (k := 56) rfl hs (by decide)
  have h5 := Z_nat r
  have h6 := Z_rg r
  simp only [Nat.reducePow] at h1 h4
  rw [h4]
  have h7 : r.toInt = r.toBitVec.toNat := by omega
  rw [h7]
  clear h4 h5 h6 h7 hs
  generalize r.toBitVec.toNat = q at *
  omega
theorem ud_16 {r : Int64} {s : Int32} (hn : r.toBitVec.toNat < 65536) (hs : s.toInt = 48) : (xb_lshr (xb_lshl r s) s).toInt = (r.toInt + 32768) % 65536 - 32768 := by
  obtain ⟨m, h1, h2, h3, h4⟩ := ud_t (n := r.toBitVec.toNat) (k := 48) rfl hs (by decide)
  have h5 := Z_nat r
  have h6 := Z_rg r
  simp only [Nat.reducePow] at h1 h4
  rw [h4]
  have h7 : r.toInt = r.toBitVec.toNat := by omega
  rw [h7]
  clear h4 h5 h6 h7 hs
  generalize r.toBitVec.toNat = q at *
  omega
theorem ud_32 {r : Int64} {s : Int32} (hn : r.toBitVec.toNat < 4294967296) (hs : s.toInt = 32) : (xb_lshr (xb_lshl r s) s).toInt = (r.toInt + 2147483648) % 4294967296 - 2147483648 := by
  obtain ⟨m, h1, h2, h3, h4⟩ := ud_t (n := r.toBitVec.toNat) (k := 32) rfl hs (by decide)
  have h5 := Z_nat r
  have h6 := Z_rg r
  simp only [Nat.reducePow] at h1 h4
  rw [h4]
  have h7 : r.toInt = r.toBitVec.toNat := by omega
  rw [h7]
  clear h4 h5 h6 h7 hs
  generalize r.toBitVec.toNat = q at *
  omega
theorem arV_m {r : Int64} (τ : Int) (h1 : τ = 127 ∨ τ = 125 → r.toBitVec.toNat < 4294967296) : arV τ r = r := by
  apply arV_of
  intro h2
  have h3 := h1 h2
  have h5 := Z_nat r
  have h6 := Z_rg r
  omega
/-- what is loaded is the same -/
theorem wdn_x {op : Nat} {r : Int64} {s : Int32} (h1 : 40 ≤ op) (h2 : op < 54) (hr : r.toBitVec.toNat < 256 ^ (MB (op - 40)).toNat) (hs : s.toInt = 64 - 8 * MB (op - 40)) : arV (MT (op - 40)) (if op = 44 ∨ op = 46 ∨ op = 48 ∨ op = 50 ∨ op = 52 then xb_lshr (xb_lshl r s) s else r) = wdn op r := by
  have key : ∀ k, k < 14 → k = 4 ∨ k = 6 ∨ k = 8 ∨ k = 10 ∨ k = 12 ∨ ((MT k = 127 ∨ MT k = 125) → MB k ≤ 4) := by decide +kernel
  by_cases o44 : op = 44
  · subst o44
    rw [if_pos (.inl rfl)]
    have hr' : r.toBitVec.toNat < 256 := hr
    have hs' : s.toInt = 56 := hs
    show _ &&& _ = _ &&& _
    congr 1
    apply Int64.toInt.inj
    rw [ud_8 hr' hs', s8_t]
  by_cases o46 : op = 46
  · subst o46
    rw [if_pos (.inr (.inl rfl))]
    have hr' : r.toBitVec.toNat < 65536 := hr
    have hs' : s.toInt = 48 := hs
    show _ &&& _ = _ &&& _
    congr 1
    apply Int64.toInt.inj
    rw [ud_16 hr' hs', s16_t]
  by_cases o48 : op = 48
  · subst o48
    rw [if_pos (.inr (.inr (.inl rfl)))]
    have hr' : r.toBitVec.toNat < 256 := hr
    have hs' : s.toInt = 56 := hs
    show xb_lshr _ _ = Int32.toInt64 _
    apply Int64.toInt.inj
    rw [ud_8 hr' hs', s8_t]
  by_cases o50 : op = 50
  · subst o50
    rw [if_pos (.inr (.inr (.inr (.inl rfl))))]
    have hr' : r.toBitVec.toNat < 65536 := hr
    have hs' : s.toInt = 48 := hs
    show xb_lshr _ _ = Int32.toInt64 _
    apply Int64.toInt.inj
    rw [ud_16 hr' hs', s16_t]
  by_cases o52 : op = 52
  · subst o52
    rw [if_pos (.inr (.inr (.inr (.inr rfl))))]
    have hr' : r.toBitVec.toNat < 4294967296 := hr
    have hs' : s.toInt = 32 := hs
    show xb_lshr _ _ = Int32.toInt64 _
    apply Int64.toInt.inj
    rw [ud_32 hr' hs', s32_t]
  · rw [if_neg (by omega)]
    unfold wdn
    rw [if_neg o44, if_neg o46, if_neg o48, if_neg o50, if_neg o52]
    apply arV_m
    intro h9
    have h8 : MB (op - 40) ≤ 4 := by
      rcases key (op - 40) (by omega) with e | e | e | e | e | e
      · omega
      · omega
      · omega
      · omega
      · omega
      · exact e h9
    have h7 : 256 ^ (MB (op - 40)).toNat ≤ 256 ^ 4 := Nat.pow_le_pow_right (by decide) (by omega)
    have h6 : (256 : Nat) ^ 4 = 4294967296 := rfl
    omega
theorem sto_at {b b' a a' : Nat → Nat} {v c : Nat} : ∀ (k : Nat), b c = b' c → (∀ i, i < k → a i = a' i) → sto b a v k c = sto b' a' v k c
  | 0, h, _ => h
  | k + 1, h, ha => by
    have ih := sto_at (v := v) k h (fun i hi => ha i (by omega))
    show va_up _ _ _ c = va_up _ _ _ c
    rw [xh_up, xh_up, ha k (by omega), ih]
theorem sto_off {b a : Nat → Nat} {v c : Nat} : ∀ (k : Nat), (∀ i, i < k → a i ≠ c) → sto b a v k c = b c
  | 0, _ => rfl
  | k + 1, ha => by
    show va_up _ _ _ c = b c
    rw [xh_up, if_neg (fun e => ha k (by omega) e.symm), sto_off k (fun i hi => ha i (by omega))]
theorem MB_r : ∀ k, k < 23 → 1 ≤ (MB k).toNat ∧ (MB k).toNat ≤ 8 ∧ ((MB k).toNat : Int) = MB k := by decide +kernel
