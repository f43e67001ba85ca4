-- a module that lies in the heap, to be read
def md_M (h : xb_H) (md cd nt im N : Nat) (rw it n : Nat → Nat) (vs : Nat → Nat → Int64) (cb ν iv : Nat → Int32) : Prop :=
  (xb_k h md = 3 ∧ xb_r h md 0 = some cd ∧ xb_k h cd = 100 ∧ xb_n h cd = N ∧ xb_i h cd = cb) ∧ (xb_r h md 1 = some nt ∧ xb_k h nt = 102 ∧ xb_n h nt = N ∧ xb_i h nt = ν) ∧
  (∀ k, k < 12 → xb_r h md (k + 2) = some (rw k) ∧ xr_row h (rw k) (xr_c k) (n k) (it k) ∧ ∀ j, j < n k → xb_l h (it k) j = vs k j) ∧ (xb_r h md 14 = some im ∧ xb_k h im = 102 ∧ xb_n h im = 4 ∧ xb_i h im = iv) ∧ N ≤ 65536
section MDM
variable {h : xb_H} {md cd nt im N : Nat} {rw it n : Nat → Nat} {vs : Nat → Nat → Int64} {cb ν iv : Nat → Int32}
theorem md_M.row (hM : md_M h md cd nt im N rw it n vs cb ν iv) {k : Nat} (hk : k < 12) : xb_r h md (k + 2) = some (rw k) := (hM.2.2.1 k hk).1
theorem md_M.krow (hM : md_M h md cd nt im N rw it n vs cb ν iv) {k : Nat} (hk : k < 12) : xb_k h (rw k) = 2 := (hM.2.2.1 k hk).2.1.1
theorem md_M.ok (hM : md_M h md cd nt im N rw it n vs cb ν iv) {k : Nat} (hk : k < 12) : xr_row h (rw k) (xr_c k) (n k) (it k) := (hM.2.2.1 k hk).2.1
theorem md_M.k (hM : md_M h md cd nt im N rw it n vs cb ν iv) : xb_k h md = 3 := hM.1.1
theorem md_ix (hM : md_M h md cd nt im N rw it n vs cb ν iv) {k c i j : Nat} {x y : Int32} (hk : k < 12) (hc : xr_c k = c) (hx : x.toInt = i) (hy : y.toInt = j) (hj : j < c) (hi : c * i + c ≤ n k) : (x * xb_i h (rw k) 2 + y).toInt = (c * i + j : Nat) ∧ c * i + j < n k ∧ n k ≤ xb_n h (it k) ∧ xb_n h (it k) ≤ 8388608 := by
  obtain ⟨b1, b2, b3, b4, b5, b6, b7, b8⟩ := hM.ok hk
  have e1 : (x.toInt * (xb_i h (rw k) 2).toInt) = ((c * i : Nat) : Int) := by
    rw [hx, b2, hc, Int.natCast_mul, Int.mul_comm]
  generalize c * i = t at hi e1
  have e2 : (x * xb_i h (rw k) 2).toInt = t := by
    rw [z_mul, e1]
    omega
  refine ⟨?_, by omega, b6, b8⟩
  rw [z_add, e2, hy]
  omega
theorem md_at (hM : md_M h md cd nt im N rw it n vs cb ν iv) {k c i j : Nat} {x y : Int32} {Qr : Int32 → xb_H → Prop} (hk : k < 12) (hc : xr_c k = c) (hx : x.toInt = i) (hy : y.toInt = j) (hj : j < c) (hi : c * i + c ≤ n k)
    (hQ : ∀ r : Int32, r.toInt = ((vs k (c * i + j)).toInt + 2147483648) % 4294967296 - 2147483648 → Qr r h) : w_Row_at (rw k) x y h Qr := by
  obtain ⟨e1, e2, e3, e4⟩ := md_ix hM hk hc hx hy hj hi
  obtain ⟨b1, b2, b3, b4, b5, b6, b7, b8⟩ := hM.ok hk
  unfold w_Row_at
  refine ⟨b1, it k, b4, b5, by rw [z_in, e1]; omega, ?_⟩
  rw [z_cl, e1, Int.toNat_natCast, (hM.2.2.1 k hk).2.2 _ e2]
  exact hQ _ (z_of64 _)
theorem md_longAt (hM : md_M h md cd nt im N rw it n vs cb ν iv) {k c i j : Nat} {x y : Int32} {Qr : Int64 → xb_H → Prop} (hk : k < 12) (hc : xr_c k = c) (hx : x.toInt = i) (hy : y.toInt = j) (hj : j < c) (hi : c * i + c ≤ n k)
    (hQ : Qr (vs k (c * i + j)) h) : w_Row_longAt (rw k) x y h Qr := by
  obtain ⟨e1, e2, e3, e4⟩ := md_ix hM hk hc hx hy hj hi
  obtain ⟨b1, b2, b3, b4, b5, b6, b7, b8⟩ := hM.ok hk
  unfold w_Row_longAt
  refine ⟨b1, it k, b4, b5, by rw [z_in, e1]; omega, ?_⟩
  rw [z_cl, e1, Int.toNat_natCast, (hM.2.2.1 k hk).2.2 _ e2]
  exact hQ
theorem md_lines (hM : md_M h md cd nt im N rw it n vs cb ν iv) {k c : Nat} {Qr : Int32 → xb_H → Prop} (hk : k < 12) (hc : xr_c k = c) (h0 : 0 < c) (hQ : ∀ r : Int32, r.toInt = (n k / c : Nat) → Qr r h) : w_Row_lines (rw k) h Qr := by
  have h1 := hM.ok hk
  rw [hc] at h1
  exact sp_Row_lines h1 h0 hQ
theorem sp_sameBytes {b1 b2 : Nat} {x1 x3 x4 : Int32} {Qr : Int32 → xb_H → Prop} (k1 : xb_k h b1 = 100) (k2 : xb_k h b2 = 100) (h1 : 0 ≤ x1.toInt) (h3 : 0 ≤ x3.toInt) (h4 : 0 ≤ x4.toInt) (l1 : x1.toInt + x4.toInt ≤ xb_n h b1) (l2 : x3.toInt + x4.toInt ≤ xb_n h b2) (m1 : xb_n h b1 ≤ 1000000000) (m2 : xb_n h b2 ≤ 1000000000)
    (hQ : ∀ r : Int32, r = 0 ∨ r = 1 → Qr r h) : w_StackModule_sameBytes b1 x1 b2 x3 x4 h Qr := by
  have key : ∀ (m : Nat) (x5 : Int32), 0 ≤ x5.toInt → x4.toInt - x5.toInt ≤ m → w_StackModule_sameBytes_L3 Qr (m + 1) b1 x1 b2 x3 x4 x5 h := by
    intro m
    induction m with
    | zero =>
      intro x5 g1 g2
      unfold w_StackModule_sameBytes_L3
      refine ⟨fun _ => hQ 1 (.inr rfl), fun e => ?_⟩
      rw [z_le] at e
      omega
    | succ m ih =>
      intro x5 g1 g2
      unfold w_StackModule_sameBytes_L3
      refine ⟨fun _ => hQ 1 (.inr rfl), fun e => ?_⟩
      rw [z_le] at e
      have r := z_rg x4
      have e5 : (x5 + 1).toInt = x5.toInt + 1 := by rw [z_add]; simp only [Int32.reduceToInt]; omega
      have e6 : (x1 + x5).toInt = x1.toInt + x5.toInt := by rw [z_add]; omega
      have e7 : (x3 + x5).toInt = x3.toInt + x5.toInt := by rw [z_add]; omega
      exact ⟨k1, by rw [z_in, e6]; omega, k2, by rw [z_in, e7]; omega, fun _ => ih (x5 + 1) (by omega) (by omega), fun _ => hQ 0 (.inl rfl)⟩
  unfold w_StackModule_sameBytes
  exact ⟨x4.toInt.toNat + 1, key _ 0 (by simp) (by simp only [Int32.reduceToInt]; omega)⟩
theorem sp_sameBytesS {b1 : Nat} {x1 x3 x4 : Int32} {Qr : Int32 → xb_H → Prop} (k1 : xb_k h b1 = 100) (h1 : 0 ≤ x1.toInt) (h3 : 0 ≤ x3.toInt) (h4 : 0 ≤ x4.toInt) (l1 : x1.toInt + x4.toInt ≤ xb_n h b1) (l2 : x3.toInt + x4.toInt ≤ 4) (m1 : xb_n h b1 ≤ 1000000000)
    (hQ : ∀ r : Int32, r = 0 ∨ r = 1 → Qr r h) : w_StackModule_sameBytesS b1 x1 x3 x4 h Qr := by
  have key : ∀ (m : Nat) (x5 : Int32), 0 ≤ x5.toInt → x4.toInt - x5.toInt ≤ m → w_StackModule_sameBytesS_L3 Qr (m + 1) b1 x1 x3 x4 x5 h := by
    intro m
    induction m with
    | zero =>
      intro x5 g1 g2
      unfold w_StackModule_sameBytesS_L3
      refine ⟨fun _ => hQ 1 (.inr rfl), fun e => ?_⟩
      rw [z_le] at e
      omega
    | succ m ih =>
      intro x5 g1 g2
      unfold w_StackModule_sameBytesS_L3
      refine ⟨fun _ => hQ 1 (.inr rfl), fun e => ?_⟩
      rw [z_le] at e
      have r := z_rg x4
      have e5 : (x5 + 1).toInt = x5.toInt + 1 := by rw [z_add]; simp only [Int32.reduceToInt]; omega
      have e6 : (x1 + x5).toInt = x1.toInt + x5.toInt := by rw [z_add]; omega
      have e7 : (x3 + x5).toInt = x3.toInt + x5.toInt := by rw [z_add]; omega
      exact ⟨k1, by rw [z_in, e6]; omega, by rw [z_in, e7]; omega, fun _ => ih (x5 + 1) (by omega) (by omega), fun _ => hQ 0 (.inl rfl)⟩
  unfold w_StackModule_sameBytesS
  exact ⟨x4.toInt.toNat + 1, key _ 0 (by simp) (by simp only [Int32.reduceToInt]; omega)⟩
theorem sp_isThere {x0 : Int64} {x2 : Int32} {Qr : Int32 → xb_H → Prop} (hQ : ∀ r : Int32, (r = 0 ∧ ¬ (0 ≤ x0.toInt ∧ x0.toInt < x2.toInt)) ∨ (r = 1 ∧ 0 ≤ x0.toInt ∧ x0.toInt < x2.toInt) → Qr r h) : w_Checker_isThere x0 x2 h Qr := by
  unfold w_Checker_isThere w_Checker_isThere_L17 w_Checker_isThere_L18
  refine ⟨fun e => ⟨.inl rfl, hQ 0 (.inl ⟨rfl, ?_⟩)⟩, fun e => ⟨fun e2 => ⟨.inl rfl, hQ 0 (.inl ⟨rfl, ?_⟩)⟩, fun e2 => ⟨.inr rfl, hQ 1 (.inr ⟨rfl, ?_⟩)⟩⟩⟩
  · rw [Z_lt] at e
    simp only [Int64.reduceToInt] at e
    omega
  · rw [Z_le, Z_of32] at e2
    omega
  · rw [Z_lt] at e
    rw [Z_le, Z_of32] at e2
    simp only [Int64.reduceToInt] at e
    omega
end MDM
