-- names that are the same
/-- the i-th export is named so -/
def smE (n : Nat → Nat) (vs : Nat → Nat → Int64) (cb u : Nat → Int32) (p l i : Nat) : Prop := (vs 6 (5 * i + 4)).toInt = l ∧ ∀ t, t < l → cb ((vs 6 (5 * i + 3)).toInt.toNat + t) = u (p + t)
/-- the first export of a module that is named so, or none -/
def exN (d : mD) (u : Nat → Int32) (p l : Nat) (r : Int32) : Prop := (r = -1 ∧ ∀ j, j < dn d 6 / 5 → ¬ smE (dn d) (dvs d) (dcb d) u p l j) ∨ (∃ i : Nat, r.toInt = i ∧ i < dn d 6 / 5 ∧ smE (dn d) (dvs d) (dcb d) u p l i ∧ ∀ j, j < i → ¬ smE (dn d) (dvs d) (dcb d) u p l j)
theorem exN.rg {d : mD} {u : Nat → Int32} {p l : Nat} {r : Int32} (h : exN d u p l r) : r.toInt = -1 ∨ (0 ≤ r.toInt ∧ r.toInt < (dn d 6 / 5 : Nat)) := by
  rcases h with ⟨h1, -⟩ | ⟨i, h1, h2, -⟩
  · rw [h1]
    exact .inl rfl
  · exact .inr ⟨by omega, by omega⟩
section SM0
variable {h : xb_H} {md cd nt im N : Nat} {rw it n : Nat → Nat} {vs : Nat → Nat → Int64} {cb ν iv : Nat → Int32}
theorem y_sameBytes {b1 b2 p1 p3 l : Nat} {x1 x3 x4 : Int32} {Qr : Int32 → xb_H → Prop} (k1 : xb_k h b1 = 100) (k2 : xb_k h b2 = 100) (h1 : x1.toInt = p1) (h3 : x3.toInt = p3) (h4 : x4.toInt = l) (l1 : x1.toInt + x4.toInt ≤ xb_n h b1) (l2 : x3.toInt + x4.toInt ≤ xb_n h b2) (m1 : xb_n h b1 ≤ 1000000000) (m2 : xb_n h b2 ≤ 1000000000)
    (hQ : ∀ r : Int32, (r = 0 ∧ ¬ ∀ t, t < l → xb_i h b1 (p1 + t) = xb_i h b2 (p3 + t)) ∨ (r = 1 ∧ ∀ t, t < l → xb_i h b1 (p1 + t) = xb_i h b2 (p3 + t)) → Qr r h) : w_StackModule_sameBytes b1 x1 b2 x3 x4 h Qr := by
  have key : ∀ (m : Nat) (x5 : Int32) (k : Nat), x5.toInt = k → l - k ≤ m → (∀ t, t < k → xb_i h b1 (p1 + t) = xb_i h b2 (p3 + t)) → w_StackModule_sameBytes_L3 Qr (m + 1) b1 x1 b2 x3 x4 x5 h := by
    intro m
    induction m with
    | zero =>
      intro x5 k g1 g2 g3
      unfold w_StackModule_sameBytes_L3
      refine ⟨fun _ => hQ 1 (.inr ⟨rfl, fun t ht => g3 t (by omega)⟩), fun e => ?_⟩
      rw [z_le] at e
      omega
    | succ m ih =>
      intro x5 k g1 g2 g3
      unfold w_StackModule_sameBytes_L3
      refine ⟨fun e => hQ 1 (.inr ⟨rfl, fun t ht => g3 t (by rw [z_le] at e; omega)⟩), fun e => ?_⟩
      rw [z_le] at e
      have r := z_rg x4
      have e5 : (x5 + 1).toInt = (k + 1 : Nat) := by rw [z_add, g1]; simp only [Int32.reduceToInt]; omega
      have e6 : (x1 + x5).toInt = (p1 + k : Nat) := by rw [z_add]; omega
      have e7 : (x3 + x5).toInt = (p3 + k : Nat) := by rw [z_add]; omega
      refine ⟨k1, by rw [z_in, e6]; omega, k2, by rw [z_in, e7]; omega, fun e8 => ih (x5 + 1) (k + 1) e5 (by omega) (fun t ht => ?_), fun e8 => hQ 0 (.inl ⟨rfl, fun h9 => e8 ?_⟩)⟩
      · rw [z_cl, z_cl, e6, e7, Int.toNat_natCast, Int.toNat_natCast] at e8
        rcases Nat.lt_or_ge t k with h9 | h9
        · exact g3 t h9
        · rw [show t = k by omega]
          exact e8
      · rw [z_cl, z_cl, e6, e7, Int.toNat_natCast, Int.toNat_natCast]
        exact h9 k (by omega)
  unfold w_StackModule_sameBytes
  exact ⟨l + 1, key _ 0 0 rfl (by omega) (fun t ht => by omega)⟩
theorem y_sameBytesS {b1 p1 : Nat} {x1 x4 : Int32} {Qr : Int32 → xb_H → Prop} (k1 : xb_k h b1 = 100) (h1 : x1.toInt = p1) (h4 : x4.toInt = 4) (l1 : p1 + 4 ≤ xb_n h b1) (m1 : xb_n h b1 ≤ 1000000000)
    (hQ : ∀ r : Int32, (r = 0 ∧ ¬ ∀ t, t < 4 → xb_i h b1 (p1 + t) = xb_cHN.getD t 0) ∨ (r = 1 ∧ ∀ t, t < 4 → xb_i h b1 (p1 + t) = xb_cHN.getD t 0) → Qr r h) : w_StackModule_sameBytesS b1 x1 0 x4 h Qr := by
  have key : ∀ (m : Nat) (x5 : Int32) (k : Nat), x5.toInt = k → 4 - k ≤ m → (∀ t, t < k → t < 4 → xb_i h b1 (p1 + t) = xb_cHN.getD t 0) → w_StackModule_sameBytesS_L3 Qr (m + 1) b1 x1 0 x4 x5 h := by
    intro m
    induction m with
    | zero =>
      intro x5 k g1 g2 g3
      unfold w_StackModule_sameBytesS_L3
      refine ⟨fun _ => hQ 1 (.inr ⟨rfl, fun t ht => g3 t (by omega) ht⟩), fun e => ?_⟩
      rw [z_le] at e
      omega
    | succ m ih =>
      intro x5 k g1 g2 g3
      unfold w_StackModule_sameBytesS_L3
      refine ⟨fun e => hQ 1 (.inr ⟨rfl, fun t ht => g3 t (by rw [z_le] at e; omega) ht⟩), fun e => ?_⟩
      rw [z_le] at e
      have e5 : (x5 + 1).toInt = (k + 1 : Nat) := by rw [z_add, g1]; simp only [Int32.reduceToInt]; omega
      have e6 : (x1 + x5).toInt = (p1 + k : Nat) := by rw [z_add]; omega
      have e7 : (0 + x5).toInt = (k : Nat) := by rw [z_add, g1]; simp only [Int32.reduceToInt]; omega
      refine ⟨k1, by rw [z_in, e6]; omega, by rw [z_in, e7]; omega, fun e8 => ih (x5 + 1) (k + 1) e5 (by omega) (fun t ht h4 => ?_), fun e8 => hQ 0 (.inl ⟨rfl, fun h9 => e8 ?_⟩)⟩
      · rw [z_cl, z_cl, e6, e7, Int.toNat_natCast, Int.toNat_natCast] at e8
        rcases Nat.lt_or_ge t k with h9 | h9
        · exact g3 t h9 h4
        · rw [show t = k by omega]
          exact e8
      · rw [z_cl, z_cl, e6, e7, Int.toNat_natCast, Int.toNat_natCast]
        exact h9 k (by omega)
  unfold w_StackModule_sameBytesS
  exact ⟨5, key 4 0 0 rfl (by omega) (fun t ht => by omega)⟩
theorem y_exportNamedBelow {Qr : Int32 → xb_H → Prop} {b p l : Nat} {x1 x3 x4 : Int32} (hM : md_M h md cd nt im N rw it n vs cb ν iv) (hL : xr_L 5 (mp6 N) (n 6) (vs 6)) (hn : n 6 ≤ 2 * N) (k1 : x1.toInt ≤ (n 6 / 5 : Nat)) (kb : xb_k h b = 100) (h3 : x3.toInt = p) (h4 : x4.toInt = l) (lb : x3.toInt + x4.toInt ≤ xb_n h b) (mb : xb_n h b ≤ 1000000000)
    (hQ : ∀ r : Int32, (r = -1 ∧ ∀ j : Nat, (j : Int) < x1.toInt → ¬ smE n vs cb (xb_i h b) p l j) ∨ (∃ i : Nat, r.toInt = i ∧ (i : Int) < x1.toInt ∧ smE n vs cb (xb_i h b) p l i ∧ ∀ j : Nat, j < i → ¬ smE n vs cb (xb_i h b) p l j) → Qr r h) : w_StackModule_exportNamedBelow md x1 b x3 x4 h Qr := by
  obtain ⟨⟨M1, M2, M3, M4, M5⟩, -, -, -, MN⟩ := id hM
  have r1 := z_rg x1
  have key : ∀ (m : Nat) (x : Int32) (i : Nat), x.toInt = i → x1.toInt - i ≤ m → (∀ j : Nat, j < i → ¬ smE n vs cb (xb_i h b) p l j) → w_StackModule_exportNamedBelow_L3 Qr (m + 1) md x1 b x3 x4 x h := by
    intro m
    induction m with
    | zero =>
      intro x i g1 g2 g3
      unfold w_StackModule_exportNamedBelow_L3
      refine ⟨fun e => hQ _ (.inl ⟨rfl, fun j hj => g3 j (by rw [z_le, g1] at e; omega)⟩), fun e => ?_⟩
      rw [z_le, g1] at e
      omega
    | succ m ih =>
      intro x i g1 g2 g3
      unfold w_StackModule_exportNamedBelow_L3
      refine ⟨fun e => hQ _ (.inl ⟨rfl, fun j hj => g3 j (by rw [z_le, g1] at e; omega)⟩), fun e => ?_⟩
      rw [z_le, g1] at e
      have ex : (x + 1).toInt = (i + 1 : Nat) := by rw [z_add, g1]; simp only [Int32.reduceToInt]; omega
      have go : ¬ smE n vs cb (xb_i h b) p l i → w_StackModule_exportNamedBelow_L51 (w_StackModule_exportNamedBelow_L3 Qr (m + 1)) Qr md x1 b x3 x4 x h := fun h9 => ih (x + 1) (i + 1) ex (by omega) (fun j hj => by
        rcases Nat.lt_or_ge j i with h8 | h8
        · exact g3 j h8
        · rw [show j = i by omega]
          exact h9)
      obtain ⟨pp, hi⟩ := hL.at (by omega) (i := i) (by omega)
      dsimp only [mp6] at pp
      obtain ⟨p0, p1, p2, p3, p4, p5, p6, p7, p8⟩ := pp
      refine ⟨M1, rw 6, hM.row (by omega), hM.krow (by omega), md_at (c := 5) hM (i := i) (j := 4) (by omega) rfl g1 rfl (by omega) hi (fun r6 e6 _ => ⟨fun e7 => go (fun h9 => e7 (by rw [z_eq, e6, h4, h9.1]; omega)), fun e7 => ⟨cd, M2, rw 6, hM.row (by omega), hM.krow (by omega), md_at (c := 5) hM (i := i) (j := 3) (by omega) rfl g1 rfl (by omega) hi (fun r12 e12 _ => ?_)⟩⟩)⟩
      rw [z_eq, e6] at e7
      have e12' : r12.toInt = ((vs 6 (5 * i + 3)).toInt.toNat : Nat) := by rw [e12]; omega
      have e4l : (vs 6 (5 * i + 4)).toInt = l := by omega
      refine y_sameBytes M3 kb e12' h3 h4 (by rw [M4]; omega) lb (by omega) mb (fun r14 e14 _ => ⟨fun e15 => go (fun h9 => ?_), fun e15 => hQ x (.inr ⟨i, g1, by omega, ⟨e4l, ?_⟩, g3⟩)⟩)
      · rcases e14 with ⟨-, h8⟩ | ⟨h8, -⟩
        · refine h8 (fun t ht => ?_)
          rw [M5]
          exact h9.2 t ht
        · rw [e15] at h8
          exact absurd h8 (by decide)
      · rcases e14 with ⟨h8, -⟩ | ⟨-, h8⟩
        · exact absurd h8 e15
        · intro t ht
          have := h8 t ht
          rw [M5] at this
          exact this
  unfold w_StackModule_exportNamedBelow
  exact ⟨x1.toInt.toNat + 1, key _ 0 0 rfl (by omega) (fun j hj => by omega)⟩
end SM0
