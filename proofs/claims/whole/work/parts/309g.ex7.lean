-- the reference's exact numbers: product, quotient, root, sum
section EX7
variable {ex rw_ : Nat} {f g : Nat → Nat} {h h' h2 : xb_H} {F F2 : List Nat}
theorem sp_eproductL {Qr : Int64 → xb_H → Prop} {s : Int32} {x : Int64} {pw : Int32} {P0 y : Nat} (hP : 2200 + pw.toInt = P0) (hP2 : P0 ≤ 4200) (hy : y < 2 ^ 53) (h0 : xb_H) : ∀ (m k : Nat) (x9 : Int32) (f : Nat → Nat) (h : xb_H), x9.toInt = k → k + m = 53 → eK ex rw_ f h → eM ex h → (xb_l h ex 9).toBitVec.toNat = y → eU f P0 (4400 - P0) ≤ y * (2 ^ k - 1) → eF ex rw_ [2, 3] h0 h → (∀ (r : Int64) (h' : xb_H) (f' : Nat → Nat), eF ex rw_ [2, 3] h0 h' → eK ex rw_ f' h' → Qr r h') → w_Exact_product_L128 Qr (m + 1) ex s x pw x9 h := by
  intro m
  induction m with
  | zero =>
    intro k x9 f h e1 e2 hk hm hy2 hU hF hQ
    unfold w_Exact_product_L128
    refine ⟨fun _ => ⟨hk.1.1, sp_erounded hk hm (fun r _ => hQ r h f hF hk)⟩, fun e => ?_⟩
    rw [z_le, show (53 : Int32).toInt = 53 from rfl] at e
    omega
  | succ m ih =>
    intro k x9 f h e1 e2 hk hm hy2 hU hF hQ
    have e3 : (x9 + 1).toInt = (k + 1 : Nat) := z_inc e1 (by omega)
    unfold w_Exact_product_L128 w_Exact_product_L160
    refine ⟨fun _ => ⟨hk.1.1, sp_erounded hk hm (fun r _ => hQ r h f hF hk)⟩, fun e => ⟨fun _ => ih (k + 1) _ f h e3 (by omega) hk hm hy2 ?_ hF hQ, fun _ => ⟨hk.1.1, ?_⟩⟩⟩
    · refine Nat.le_trans hU (Nat.mul_le_mul_left _ ?_)
      rw [Nat.pow_succ]
      omega
    · obtain ⟨n, hn⟩ : ∃ n, 4400 - P0 = k + n := ⟨4400 - P0 - k, by omega⟩
      have s1 := eU_sp (f := f) (k := k) (m := n) (a := P0)
      rw [← hn] at s1
      have p1 : 0 < 2 ^ k := Nat.pos_of_ne_zero (by simp)
      have v1 : eU f (P0 + k) n ≤ y := by
        have : 2 ^ k * eU f (P0 + k) n ≤ 2 ^ k * y := by
          have : y * (2 ^ k - 1) ≤ y * 2 ^ k := Nat.mul_le_mul_left _ (by omega)
          rw [Nat.mul_comm (2 ^ k) y]
          omega
        exact Nat.le_of_mul_le_mul_left this p1
      have n1 : 4400 - (P0 + k) = n := by omega
      refine sp_eadd hk (p := P0 + k) ?_ (by omega) ?_ (fun f' h' g1 g2 g3 g4 _ => ih (k + 1) _ f' h' e3 (by omega) g2 (hm.fr g1 (by decide)) ?_ ?_ ((hF.tr g1).mono (by decide)) hQ)
      · rw [z_add]
        omega
      · rw [n1, hy2]
        have : 2 ^ 54 ≤ 2 ^ n := Nat.pow_le_pow_right (by omega) (by omega)
        omega
      · rw [g1.2.2.2.2.2.2 (by decide)]
        exact hy2
      · have s2 := eU_sp (f := f') (k := k) (m := n) (a := P0)
        rw [n1, hy2] at g4
        rw [hn, s2, g4, eU_cg (f := f) (g := f') (fun j _ hj => g3 j (by omega)), Nat.mul_add, ← Nat.add_assoc, ← s1, Nat.pow_succ]
        have : y * (2 ^ k * 2 - 1) = y * (2 ^ k - 1) + 2 ^ k * y := by
          rw [Nat.mul_comm (2 ^ k) y, ← Nat.mul_add]
          congr 1
          omega
        omega
theorem sp_eproduct {x y : Int64} {Qr : Int64 → xb_H → Prop} (hk : eK ex rw_ f h) (hm : eM ex h) (hQ : ∀ (r : Int64) (h' : xb_H) (f' : Nat → Nat), eF ex rw_ eFA h h' → eK ex rw_ f' h' → Qr r h') : w_Exact_product ex x y h Qr := by
  have k1 := hk.1
  have same : ∀ r, Qr r h := fun r => hQ r h f eF.rf hk
  have L52 : w_Exact_product_L52 Qr ex h := by
    unfold w_Exact_product_L52 w_Exact_product_L65
    exact ⟨k1.1, sp_enoNumber k1.1 (fun r _ => same r)⟩
  have L82 : ∀ s, w_Exact_product_L82 Qr ex s h := fun s => by
    unfold w_Exact_product_L82
    exact ⟨k1.1, sp_esigned k1.1 (fun r _ => same r)⟩
  have L36 : ∀ s, w_Exact_product_L36 Qr ex x y s h := fun s => by
    unfold w_Exact_product_L36
    refine ⟨k1.1, sp_eisZero k1.1 (fun r3 _ _ => ⟨fun _ => L52, fun _ => sp_eisZero k1.1 (fun r6 _ _ => ⟨fun _ => ?_, fun _ => L52⟩)⟩)⟩
    unfold w_Exact_product_L65
    exact sp_einfinite k1.1 (fun r _ => same r)
  have L18 : ∀ s, w_Exact_product_L18 Qr ex x y s h := fun s => by
    unfold w_Exact_product_L18
    refine ⟨k1.1, sp_eisInfinite k1.1 (fun r3 _ => ⟨fun _ => L36 s, fun _ => sp_eisInfinite k1.1 (fun r6 _ => ⟨fun _ => sp_eisZero k1.1 (fun r9 _ _ => ⟨fun _ => L82 s, fun _ => sp_eisZero k1.1 (fun r12 _ _ => ⟨fun _ => ?_, fun _ => L82 s⟩)⟩), fun _ => L36 s⟩)⟩)⟩
    refine sp_esplit2 hk hm (fun h14 p p1 p2 f14 k14 m14 a14 _ w14 _ v16 e16 v17 e17 => ?_)
    refine sp_esplit2 k14 m14 (fun h18 q q1 q2 f18 k18 m18 a18 _ w18 _ v20 e20 => ?_)
    refine sp_eclear k18 (fun h21 f21 k21 _ => ⟨53 + 1, ?_⟩)
    refine sp_eproductL (P0 := p + q - 2200) (y := (xb_l h18 ex 9).toBitVec.toNat) ?_ (by omega) a18 h21 53 0 0 _ h21 rfl rfl k21 (m18.fr f21 (by decide)) ?_ ?_ eF.rf (fun r h' f' g1 g2 => hQ r h' f' ((((f14.tr f18).tr f21).tr g1).mono (by decide)) g2)
    · rw [e20, z_add, e17]
      omega
    · rw [f21.2.2.2.2.2.2 (by decide)]
    · rw [eU_zero]
      omega
  unfold w_Exact_product
  exact ⟨k1.1, sp_eisMinus k1.1 (fun r3 _ _ => sp_eisMinus k1.1 (fun r5 _ _ => ⟨fun _ => L18 _, fun _ => L18 _⟩))⟩
theorem sp_equotientL {Qr : Int64 → xb_H → Prop} {s : Int32} {x : Int64} {pw : Int32} {P0 : Nat} (hP : 2200 + pw.toInt = P0) (hP1 : 110 ≤ P0) (hP2 : P0 ≤ 4300) (h0 : xb_H) : ∀ (m : Nat) (x9 : Int64) (x11 : Int32) (f : Nat → Nat) (h : xb_H), x11.toInt = (m : Int) - 111 → m ≤ 163 → eK ex rw_ f h → eM ex h → (∀ j, j + 111 ≤ P0 + m → f j = 0) → eF ex rw_ [2, 3] h0 h → (∀ (r : Int64) (h' : xb_H) (f' : Nat → Nat), eF ex rw_ [2, 3, 4] h0 h' → eK ex rw_ f' h' → Qr r h') → w_Exact_quotient_L147 Qr (m + 1) ex s x pw x9 x11 h := by
  intro m
  have L225 : ∀ (f : Nat → Nat) (h : xb_H), eK ex rw_ f h → eM ex h → eF ex rw_ [2, 3] h0 h → (∀ (r : Int64) (h' : xb_H) (f' : Nat → Nat), eF ex rw_ [2, 3, 4] h0 h' → eK ex rw_ f' h' → Qr r h') → ∀ v : Int32, (v = 0 ∨ v = 1) → w_Exact_quotient_L225 Qr ex s v ex h := by
    intro f h hk hm hF hQ v hv
    unfold w_Exact_quotient_L225
    refine ⟨hk.1.1, hv, fun h3 e3 => ?_⟩
    have k3 : eK ex rw_ f h3 := by rw [e3]; exact hk.rs hv
    have f3 : eF ex rw_ [4] h h3 := by rw [e3]; exact eF.I hk.1
    exact ⟨k3.1.1, sp_erounded k3 (hm.fr f3 (by decide)) (fun r _ => hQ r h3 f ((hF.tr f3).mono (by decide)) k3)⟩
  induction m with
  | zero =>
    intro x9 x11 f h e1 e2 hk hm hz hF hQ
    unfold w_Exact_quotient_L147
    refine ⟨fun _ => ⟨fun _ => L225 f h hk hm hF hQ 0 (.inl rfl), fun _ => L225 f h hk hm hF hQ 1 (.inr rfl)⟩, fun e => ?_⟩
    rw [z_lt, show (-110 : Int32).toInt = -110 from rfl] at e
    omega
  | succ m ih =>
    intro x9 x11 f h e1 e2 hk hm hz hF hQ
    have e3 : (x11 + -1).toInt = (m : Int) - 111 := by
      rw [z_add, show (-1 : Int32).toInt = -1 from rfl]
      omega
    have L178 : ∀ a b, w_Exact_quotient_L178 (w_Exact_quotient_L147 Qr (m + 1)) Qr ex s x pw x11 a b h := by
      intro a b
      unfold w_Exact_quotient_L178 w_Exact_quotient_L206
      refine fun v1 _ => ⟨fun _ => ih _ _ f h e3 (by omega) hk hm (fun j hj => hz j (by omega)) hF hQ, fun _ v3 _ => ⟨hk.1.1, ?_⟩⟩
      refine sp_eadd1 hk (p := P0 + m - 110) ?_ (by omega) (hz _ (by omega)) (fun f' h' g1 g2 g3 _ => ih _ _ f' h' e3 (by omega) g2 (hm.fr g1 (by decide)) (fun j hj => ?_) ((hF.tr g1).mono (by decide)) hQ)
      · rw [z_add]
        omega
      · rw [g3 j (by omega)]
        exact hz j (by omega)
    unfold w_Exact_quotient_L147
    exact ⟨fun _ => ⟨fun _ => L225 f h hk hm hF hQ 0 (.inl rfl), fun _ => L225 f h hk hm hF hQ 1 (.inr rfl)⟩, fun e => ⟨fun _ => ⟨hk.1.1, L178 _ _⟩, fun _ => L178 _ _⟩⟩
theorem sp_equotient {x y : Int64} {Qr : Int64 → xb_H → Prop} (hk : eK ex rw_ f h) (hm : eM ex h) (hQ : ∀ (r : Int64) (h' : xb_H) (f' : Nat → Nat), eF ex rw_ eFA h h' → eK ex rw_ f' h' → Qr r h') : w_Exact_quotient ex x y h Qr := by
  have k1 := hk.1
  have same : ∀ r, Qr r h := fun r => hQ r h f eF.rf hk
  have L52 : w_Exact_quotient_L52 Qr ex h := by
    unfold w_Exact_quotient_L52
    exact ⟨k1.1, sp_enoNumber k1.1 (fun r _ => same r)⟩
  have L96 : ∀ s, w_Exact_quotient_L96 Qr ex s h := fun s => by
    unfold w_Exact_quotient_L96
    exact ⟨k1.1, sp_esigned k1.1 (fun r _ => same r)⟩
  have L73 : ∀ s, w_Exact_quotient_L73 Qr ex s h := fun s => by
    unfold w_Exact_quotient_L73
    exact ⟨k1.1, sp_einfinite k1.1 (fun r _ => same r)⟩
  have L57 : ∀ s, w_Exact_quotient_L57 Qr ex x y s h := fun s => by
    unfold w_Exact_quotient_L57
    refine ⟨k1.1, sp_eisInfinite k1.1 (fun r3 _ => ⟨fun _ => L73 s, fun _ => sp_eisZero k1.1 (fun r6 _ _ => ⟨fun _ => sp_eisInfinite k1.1 (fun r9 _ => ⟨fun _ => L96 s, fun _ => sp_eisZero k1.1 (fun r12 _ _ => ⟨fun _ => ?_, fun _ => L96 s⟩)⟩), fun _ => L73 s⟩)⟩)⟩
    refine sp_esplit2 hk hm (fun h14 p p1 p2 f14 k14 m14 a14 _ w14 _ v16 e16 v17 e17 => ?_)
    refine sp_esplit2 k14 m14 (fun h18 q q1 q2 f18 k18 m18 a18 _ w18 _ v20 e20 => ?_)
    refine sp_eclear k18 (fun h21 f21 k21 _ => ⟨163 + 1, ?_⟩)
    refine sp_equotientL (P0 := 2200 + q - p) ?_ (by omega) (by omega) h21 163 0 52 _ h21 rfl (by omega) k21 (m18.fr f21 (by decide)) (fun _ _ => rfl) eF.rf (fun r h' f' g1 g2 => hQ r h' f' ((((f14.tr f18).tr f21).tr g1).mono (by decide)) g2)
    have e9 : v17.toInt = -(xb_i h14 ex 10).toInt := by
      rw [e17, z_neg]
      omega
    rw [e20, z_add, e9]
    omega
  have L36 : ∀ s, w_Exact_quotient_L36 Qr ex x y s h := fun s => by
    unfold w_Exact_quotient_L36
    exact ⟨k1.1, sp_eisZero k1.1 (fun r3 _ _ => ⟨fun _ => L57 s, fun _ => sp_eisZero k1.1 (fun r6 _ _ => ⟨fun _ => L57 s, fun _ => L52⟩)⟩)⟩
  have L18 : ∀ s, w_Exact_quotient_L18 Qr ex x y s h := fun s => by
    unfold w_Exact_quotient_L18
    exact ⟨k1.1, sp_eisInfinite k1.1 (fun r3 _ => ⟨fun _ => L36 s, fun _ => sp_eisInfinite k1.1 (fun r6 _ => ⟨fun _ => L52, fun _ => L36 s⟩)⟩)⟩
  unfold w_Exact_quotient
  exact ⟨k1.1, sp_eisMinus k1.1 (fun r3 _ _ => sp_eisMinus k1.1 (fun r5 _ _ => ⟨fun _ => L18 _, fun _ => L18 _⟩))⟩
end EX7
