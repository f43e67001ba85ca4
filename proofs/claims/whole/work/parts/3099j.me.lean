-- a run: a memory is read and written
/-- what is loaded, by the instruction -/
def wdn (o : Nat) (v : Int64) : Int64 :=
  if o = 44 then (Int32.toInt64 ((Int32.toInt8 (Int64.toInt32 v)).toInt32)) &&& 4294967295 else if o = 46 then (Int32.toInt64 ((Int32.toInt16 (Int64.toInt32 v)).toInt32)) &&& 4294967295 else if o = 48 then Int32.toInt64 ((Int32.toInt8 (Int64.toInt32 v)).toInt32) else if o = 50 then Int32.toInt64 ((Int32.toInt16 (Int64.toInt32 v)).toInt32) else if o = 52 then Int32.toInt64 (Int64.toInt32 v) else v
theorem MB_rg : ∀ k, k < 23 → 1 ≤ MB k ∧ MB k ≤ 8 := by decide +kernel
theorem MB_sh : ∀ k, k < 23 → (MT k = 127 ∨ MT k = 125 → MB k ≤ 4) := by decide +kernel
section ME1
variable {own own' ad ad' : Nat → Nat} {h h' h1 : xb_H} {W : wD} {σ D : Nat} {gx : Nat → fG} {t P lcn p0 E g : Nat} {lo ν0 : Nat → Int32} {G : ctG}
theorem mO_byteAt {ma sl pc np p : Nat} {x : Int32} {Qr : Int32 → xb_H → Prop} (km : xb_k h ma = 13) (r0 : xb_r h ma 0 = some (ad 25)) (rsl : xb_r h ma 2 = some sl) (ks : xb_k h sl = 102) (ns : xb_n h sl = 16) (hsl : ∀ j, j < pc → 0 ≤ (xb_i h sl j).toInt ∧ (xb_i h sl j).toInt < (np : Nat)) (hpc : pc ≤ 16) (hnp : np ≤ 16) (hR : xr_row h (ad 25) 1 (8192 * np) (ad 26)) (hx : x.toInt = p) (hp : p < 65536 * pc) (hQ : ∀ r : Int32, 0 ≤ r.toInt → r.toInt < 256 → r.toInt = byA (xb_l h (ad 26)) (mpA (xb_i h sl) p) → Qr r h) : w_Memory_byteAt ma x h Qr := by
  obtain ⟨b1, b2, b3, b4, b5, b6, b7, b8⟩ := hR
  unfold w_Memory_byteAt
  refine ⟨km, ad 25, r0, b1, ad 26, b4, mO_wordOf km rsl ks ns hsl hpc hnp hx hp (fun r w e1 e2 ew _ => ⟨b5, by rw [z_in, e1]; omega, hQ _ ?_ ?_ ?_⟩)⟩
  · rw [z_255]
    omega
  · rw [z_255]
    omega
  · rw [show r.toNatClampNeg = w by rw [z_cl, e1, Int.toNat_natCast]]
    exact by_get hx (mpA_8 _ _) ew
theorem mO_fetch {ma sl pc np p k : Nat} {x1 x2 : Int32} {Qr : Int64 → xb_H → Prop} (km : xb_k h ma = 13) (r0 : xb_r h ma 0 = some (ad 25)) (rsl : xb_r h ma 2 = some sl) (ks : xb_k h sl = 102) (ns : xb_n h sl = 16) (hsl : ∀ j, j < pc → 0 ≤ (xb_i h sl j).toInt ∧ (xb_i h sl j).toInt < (np : Nat)) (hpc : pc ≤ 16) (hnp : np ≤ 16) (hR : xr_row h (ad 25) 1 (8192 * np) (ad 26)) (hx1 : x1.toInt = p) (hx2 : x2.toInt = k) (hk1 : 1 ≤ k) (hk : k ≤ 8) (hp : p + k ≤ 65536 * pc) (hQ : ∀ r : Int64, (k ≤ 4 → r.toBitVec.toNat < 4294967296) → r.toBitVec.toNat = gth (fun i => byA (xb_l h (ad 26)) (mpA (xb_i h sl) (p + i))) k → Qr r h) : w_Memory_fetch ma x1 x2 h Qr := by
  have key : ∀ (m : Nat) (x3 : Int64) (x5 : Int32), x5.toInt = (m : Int) - 1 → m ≤ k → x3.toBitVec.toNat < 2 ^ (8 * (k - m)) → gth (fun i => byA (xb_l h (ad 26)) (mpA (xb_i h sl) (p + i))) k = gth (fun i => byA (xb_l h (ad 26)) (mpA (xb_i h sl) (p + i))) m + 256 ^ m * x3.toBitVec.toNat → w_Memory_fetch_L7 Qr (m + 1) ma x1 x3 x5 h := by
    intro m
    induction m with
    | zero =>
      intro x3 x5 e1 e2 e3 eg
      unfold w_Memory_fetch_L7
      refine ⟨fun _ => hQ x3 (fun h9 => ?_) (by rw [eg]; simp [gth]), fun e => ?_⟩
      · have h8 := e3
        have h7 : 2 ^ (8 * (k - 0)) ≤ 2 ^ 32 := Nat.pow_le_pow_right (by omega) (by omega)
        exact Nat.lt_of_lt_of_le h8 h7
      · rw [z_lt, e1, show (0 : Int32).toInt = 0 from rfl] at e
        omega
    | succ m ih =>
      intro x3 x5 e1 e2 e3 eg
      unfold w_Memory_fetch_L7
      refine ⟨fun e => ?_, fun _ => ⟨km, ?_⟩⟩
      · rw [z_lt, e1, show (0 : Int32).toInt = 0 from rfl] at e
        omega
      · have e4 : (x1 + x5).toInt = (p + m : Nat) := by
          rw [z_add, hx1, e1]
          omega
        refine mO_byteAt (ad := ad) km r0 rsl ks ns hsl hpc hnp hR e4 (by omega) (fun r4 y1 y2 y3 _ v5 e5 => ?_)
        have h7 : 2 ^ (8 * (k - m)) = 256 * 2 ^ (8 * (k - (m + 1))) := by
          rw [show 8 * (k - m) = 8 + 8 * (k - (m + 1)) by omega, Nat.pow_add]
        have h6 : 2 ^ (8 * (k - (m + 1))) ≤ 2 ^ 56 := Nat.pow_le_pow_right (by omega) (by omega)
        have h4 := Z_nat r4.toInt64
        rw [Z_of32] at h4
        have ev : v5.toBitVec.toNat = 256 * x3.toBitVec.toNat + byA (xb_l h (ad 26)) (mpA (xb_i h sl) (p + m)) := by
          rw [e5, Z_or, Z_shl (k := 8) rfl (by omega)]
          have h3 : x3.toBitVec.toNat * 2 ^ 8 % 18446744073709551616 = 2 ^ 8 * x3.toBitVec.toNat := by omega
          have h2 : r4.toInt64.toBitVec.toNat = byA (xb_l h (ad 26)) (mpA (xb_i h sl) (p + m)) := by omega
          rw [h3, h2, ← Nat.two_pow_add_eq_or_of_lt (byA_lt _ _)]
        have hb := byA_lt (xb_l h (ad 26)) (mpA (xb_i h sl) (p + m))
        refine ih v5 (x5 + -1) ?_ (by omega) ?_ ?_
        · rw [z_add, e1, show (-1 : Int32).toInt = -1 from rfl]
          omega
        · rw [ev, h7]
          omega
        · rw [eg, ev]
          show gth _ m + 256 ^ m * byA _ _ + 256 ^ (m + 1) * x3.toBitVec.toNat = _
          rw [Nat.mul_add, Nat.pow_succ, ← Nat.mul_assoc]
          omega
  unfold w_Memory_fetch
  intro v1 e1
  refine ⟨k + 1, key k 0 v1 ?_ (Nat.le_refl k) ?_ (by simp)⟩
  · rw [e1, z_sub, hx2, show (1 : Int32).toInt = 1 from rfl]
    omega
  · rw [Nat.sub_self]
    decide
theorem mO_store {ma sl pc np p k : Nat} {x1 x2 : Int32} {x3 : Int64} {Qr : xb_H → Prop} (hB : cB own ad h) (km : xb_k h ma = 13) (r0 : xb_r h ma 0 = some (ad 25)) (rsl : xb_r h ma 2 = some sl) (ks : xb_k h sl = 102) (ns : xb_n h sl = 16) (hsl : ∀ j, j < pc → 0 ≤ (xb_i h sl j).toInt ∧ (xb_i h sl j).toInt < (np : Nat)) (hpc : pc ≤ 16) (hnp : np ≤ 16) (hR : xr_row h (ad 25) 1 (8192 * np) (ad 26)) (hx1 : x1.toInt = p) (hx2 : x2.toInt = k) (hk : k ≤ 8) (hp : p + k ≤ 65536 * pc) (hQ : ∀ h' : xb_H, stp [26] [] own ad own ad h h' → xb_i h' = xb_i h → xb_r h' = xb_r h → xb_n h' = xb_n h → xb_k h' = xb_k h → (∀ a, a ≠ ad 26 → xb_l h' a = xb_l h a) → (∀ b, byA (xb_l h' (ad 26)) b = sto (byA (xb_l h (ad 26))) (fun i => mpA (xb_i h sl) (p + i)) x3.toBitVec.toNat k b) → Qr h') : w_Memory_store ma x1 x2 x3 h Qr := by
  have key : ∀ (m : Nat) (x5 : Int32) (h1 : xb_H) (j : Nat), x5.toInt = j → j + m = k → stp [26] [] own ad own ad h h1 → xb_i h1 = xb_i h → xb_r h1 = xb_r h → xb_n h1 = xb_n h → xb_k h1 = xb_k h → (∀ a, a ≠ ad 26 → xb_l h1 a = xb_l h a) → (∀ b, byA (xb_l h1 (ad 26)) b = sto (byA (xb_l h (ad 26))) (fun i => mpA (xb_i h sl) (p + i)) x3.toBitVec.toNat j b) → w_Memory_store_L3 Qr (m + 1) ma x1 x2 x3 x5 h1 := by
    intro m
    induction m with
    | zero =>
      intro x5 h1 j e1 e2 s i r n k' l eb
      unfold w_Memory_store_L3
      refine ⟨fun _ => hQ h1 s i r n k' l (by rw [show k = j by omega]; exact eb), fun e => ?_⟩
      rw [z_le, e1, hx2] at e
      omega
    | succ m ih =>
      intro x5 h1 j e1 e2 s i r n k' l eb
      unfold w_Memory_store_L3
      refine ⟨fun e => ?_, fun _ => ⟨by rw [k']; exact km, ?_⟩⟩
      · rw [z_le, e1, hx2] at e
        omega
      · have e4 : (x1 + x5).toInt = (p + j : Nat) := by
          rw [z_add, hx1, e1]
          omega
        refine mO_setByte s.1 (by rw [k']; exact km) (by rw [r]; exact r0) (by rw [r]; exact rsl) (by rw [k']; exact ks) (by rw [n]; exact ns) (by rw [i]; exact hsl) hpc hnp (hR.fr (s.cm hB (by decide) (fun x hx => by cases hx) (k := 25) (by omega) (by decide)).2 s.2.2.2.1) e4 (by omega) (fun w y ey _ => ?_)
        refine ih (x5 + 1) _ (j + 1) (z_inc e1 (by omega)) (by omega) ((s.tr (stp.Lc s.1)).mono (by decide) (fun k hk => by simpa using hk)) (by rw [xh_iL, i]) (by rw [xh_rL, r]) (by rw [xh_nL, n]) (by rw [xh_kL, k']) (fun a ha => by rw [xh_lL, if_neg ha, l a ha]) (fun b => ?_)
        rw [xh_lL, if_pos rfl, ey b, i, eb b]
        show _ = va_up _ _ _ b
        rw [xh_up]
        have h3 : (8 * x5).toInt = (8 * j : Nat) := by
          rw [z_mul, e1, show (8 : Int32).toInt = 8 from rfl]
          omega
        have h4 := Z_ushr (x := x3) h3 (by omega)
        have h5 : (Int64.toInt32 (xb_lushr x3 (8 * x5))).toBitVec.toNat = (xb_lushr x3 (8 * x5)).toBitVec.toNat % 4294967296 := by
          rw [Int64.toBitVec_toInt32, BitVec.signExtend_eq_setWidth_of_le _ (by decide), BitVec.toNat_setWidth]
        have h6 := z_nat (Int64.toInt32 (xb_lushr x3 (8 * x5)))
        have h7 : 256 ^ j = 2 ^ (8 * j) := by rw [show (256 : Nat) = 2 ^ 8 from rfl, ← Nat.pow_mul]
        rw [h4] at h5
        split
        · rw [h7]
          generalize x3.toBitVec.toNat / 2 ^ (8 * j) = y at *
          omega
        · rfl
  unfold w_Memory_store
  exact ⟨k + 1, key k 0 h 0 rfl (by omega) ((stp.rf hB).mono (by decide) (fun k hk => hk)) rfl rfl rfl rfl (fun _ _ => rfl) (fun _ => rfl)⟩
theorem sp_widened {x0 : Int32} {o : Nat} {v : Int64} {Qr : Int64 → xb_H → Prop} (hx : x0.toInt = o) (h1 : 40 ≤ o) (h2 : o < 54) (hv : MB (o - 40) ≤ 4 → v.toBitVec.toNat < 4294967296) (hQ : vr (MT (o - 40)) (wdn o v) → Qr (wdn o v) h) : w_Machine_widened x0 v h Qr := by
  have n : ∀ (k : Int32) (m : Nat), k.toInt = m → x0 = k → o = m := fun k m hk e => by rw [e, hk] at hx; omega
  have raw : vr (MT (o - 40)) v := fun h9 => Z_sN.mpr (hv (MB_sh (o - 40) (by omega) h9))
  have b6 : ∀ (m : Nat), MT (m - 40) = 126 → o = m → ∀ r : Int64, wdn o v = r → Qr r h := fun m hm e r hw => by
    rw [hw] at hQ
    exact hQ (by rw [e, hm]; exact vr_no (by omega) (by omega))
  have a6 : ∀ r : Int64, wdn o v = r → vr (MT (o - 40)) r → Qr r h := fun r hw hv => by
    rw [hw] at hQ
    exact hQ hv
  have ne : ∀ (k : Int32) (m : Nat), k.toInt = m → ¬ x0 = k → o ≠ m := fun k m hk e e9 => e (z_eq.mpr (by rw [hx, hk, e9]))
  unfold w_Machine_widened w_Machine_widened_L84
  exact ⟨fun e => a6 _ (by rw [n 44 44 rfl e]; rfl) vr_low, fun e => a6 _ (by rw [n 45 45 rfl e]; rfl) raw, fun e => a6 _ (by rw [n 46 46 rfl e]; rfl) vr_low, fun e => a6 _ (by rw [n 47 47 rfl e]; rfl) raw, fun e => b6 48 (by decide) (n 48 48 rfl e) _ (by rw [n 48 48 rfl e]; rfl), fun e => a6 _ (by rw [n 49 49 rfl e]; rfl) raw, fun e => b6 50 (by decide) (n 50 50 rfl e) _ (by rw [n 50 50 rfl e]; rfl), fun e => a6 _ (by rw [n 51 51 rfl e]; rfl) raw, fun e => b6 52 (by decide) (n 52 52 rfl e) _ (by rw [n 52 52 rfl e]; rfl), fun z1 _ z3 _ z5 _ z7 _ z9 => a6 _ (by unfold wdn; rw [if_neg (ne 44 44 rfl z1), if_neg (ne 46 46 rfl z3), if_neg (ne 48 48 rfl z5), if_neg (ne 50 50 rfl z7), if_neg (ne 52 52 rfl z9)]) raw⟩
end ME1
