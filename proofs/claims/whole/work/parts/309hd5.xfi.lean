-- equality: the reference answers every instruction that reckons
section XFI
variable {ex rw_ a c : Nat} {f : Nat → Nat} {h h' : xb_H} {F : List Nat} {x y : Int64}
theorem b01_m {P : Prop} {w : Nat} (w6 : w = 32 ∨ w = 64) : b01 P % 2 ^ w = b01 P := by
  have : b01 P ≤ 1 := by
    by_cases h : P
    · rw [b01_1 h]; exact Nat.le_refl _
    · rw [b01_0 h]; exact Nat.zero_le _
  refine Nat.mod_eq_of_lt (Nat.lt_of_le_of_lt this ?_)
  rcases w6 with e | e <;> subst e <;> decide
theorem xr_eanswer {x1 : Int32} {o : Nat} {Qr : Int64 → xb_H → Prop} (hx1 : x1.toInt = o) (h1 : 69 ≤ o) (h2' : o < 192) (hk : eK ex rw_ f h) (hc : xb_i h ex 0 = 0) (hx : x.toBitVec.toNat = a) (hy : y.toBitVec.toNat = c) (wa : a < 2 ^ nmw o) (wc : c < 2 ^ nmw o) (hc0 : 167 ≤ o → c = 0)
    (hQ : ∀ (r : Int64) (h' : xb_H) (f' : Nat → Nat), eF ex rw_ eFB h h' → eK ex rw_ f' h' → nmt o a c = 0 → r.toBitVec.toNat % 2 ^ nmr o = nmv o a c % 2 ^ nmr o → Qr r h')
    (hT : ∀ (k : Int32) (h' : xb_H) (f' : Nat → Nat), eF ex rw_ eFA h h' → eK ex rw_ f' h' → xb_i h' ex 0 = k → nmt o a c ≠ 0 → k.toInt + 1 = nmt o a c → Qr 0 h') : w_Exact_answer ex x1 x y h Qr := by
  have k1 := hk.1.1
  have ce : ∀ (z : Int32) (j : Nat), z.toInt = j → (x1 = z ↔ o = j) := fun z j e => by rw [z_eq, hx1, e]; omega
  have lt : ∀ (z : Int32) (j : Nat), z.toInt = j → (x1 < z ↔ o < j) := fun z j e => by rw [z_lt, hx1, e]; omega
  have ge : ∀ (z : Int32) (j : Nat), z.toInt = j → (z ≤ x1 ↔ j ≤ o) := fun z j e => by rw [z_le, hx1, e]; omega
  have sb : ∀ (z : Int32) (j : Nat), z.toInt = j → j ≤ o → (x1 - z).toInt = (o - j : Nat) := fun z j e hj => by
    rw [z_sub, hx1, e]
    omega
  have noT : (o ≤ 105 ∨ (121 ≤ o ∧ o ≤ 123) ∨ (139 ≤ o ∧ o ≤ 166)) → nmt o a c = 0 := fun g => by
    unfold nmt
    rw [if_neg (by omega), if_neg (by omega), if_neg (by omega), if_neg (by omega), if_neg (by omega), if_neg (by omega)]
  have same : (o ≤ 105 ∨ (121 ≤ o ∧ o ≤ 123) ∨ (139 ≤ o ∧ o ≤ 166)) → ∀ r : Int64, r.toBitVec.toNat = nmv o a c → Qr r h := fun g r hr => hQ r h f eF.rf hk (noT g) (by rw [hr])
  have z01 : (0 : Int64).toBitVec.toNat = 0 := rfl
  have o01 : (1 : Int64).toBitVec.toNat = 1 := rfl
  have L173 : (o = 69 ∨ o = 80) → w_Exact_answer_L173 Qr x h := fun ho => by
    have nv : nmv o a c = b01 (a = 0) := by unfold nmv; exact if_pos ho
    have xz : x = 0 ↔ a = 0 := by rw [Z_eqN, hx]; rfl
    unfold w_Exact_answer_L173 w_Exact_answer_L184
    rw [xz]
    exact ⟨fun e => same (by omega) _ (by rw [nv, b01_0 e]; rfl), fun e => same (by omega) _ (by rw [nv, b01_1 e]; rfl)⟩
  have L213 : ∀ (v u : Int32) (w k : Nat), o ≤ 105 → v.toInt = w → (w = 32 ∨ w = 64) → u.toInt = k → k ≤ 9 → a < 2 ^ w → c < 2 ^ w → nmv o a c = b01 (icm w k a c) → w_Exact_answer_L213 Qr x y v u h := fun v u w k ho hv w6 hu k9 la lc nv => by
    unfold w_Exact_answer_L213 w_Exact_answer_L227
    refine xr_isSo hu k9 hv w6 hx hy la lc (fun r g1 g2 _ => ?_)
    rw [z_b01 g1 g2]
    exact ⟨fun e => same (.inl ho) _ (by rw [nv, b01_0 e]; rfl), fun e => same (.inl ho) _ (by rw [nv, b01_1 (Classical.not_not.mp e)]; rfl)⟩
  have L145 : ∀ (h2 : xb_H) (v : Int32) (k p b j : Nat) (τ : Int), o ≤ 105 → v.toInt = j → j ≤ o → o - j = k → k ≤ 5 → fpb τ p b → eF ex rw_ [5, 6, 7] h h2 → eK ex rw_ f h2 → eP ex τ h2 → fW p b a → fW p b c → nmv o a c = b01 (fcm p b k a c) → w_Exact_answer_L145 Qr x y v x1 ex h2 := fun h2 v k p b j τ ho hv hj hjk k5 hb f2 k2 m2 la lc nv => by
    have q : ∀ r : Int64, r.toBitVec.toNat = nmv o a c → Qr r h2 := fun r hr => hQ r h2 f (f2.mono (by decide)) k2 (noT (.inl ho)) (by rw [hr])
    unfold w_Exact_answer_L145 w_Exact_answer_L160
    refine ⟨k2.1.1, xr_ecompared (w := k) k2.1.1 m2 hb hx hy la lc (by rw [sb v j hv hj, hjk]) k5 (fun r g1 g2 _ => ?_)⟩
    rw [g2]
    exact ⟨fun e => q _ (by rw [nv, b01_0 e]; rfl), fun e => q _ (by rw [nv, b01_1 (Classical.not_not.mp e)]; rfl)⟩
  have L57 : ∀ (h2 : xb_H) (v : Int32) (k p b j : Nat) (τ : Int), 139 ≤ o → o ≤ 166 → v.toInt = j → j ≤ o → o - j = k → k ≤ 13 → fpb τ p b → eF ex rw_ [5, 6, 7] h h2 → eK ex rw_ f h2 → eP ex τ h2 → fW p b a → fW p b c → nmv o a c = (if k < 7 then fr1 p b k a else fr2 p b (k - 7) a c) → w_Exact_answer_L57 Qr x y v x1 ex h2 := fun h2 v k p b j τ ho ho2 hv hj hjk k13 hb f2 k2 m2 la lc nv => by
    unfold w_Exact_answer_L57
    exact ⟨k2.1.1, xr_efloated (w := k) k2 m2 hb (by rw [sb v j hv hj, hjk]) k13 hx hy la lc (fun r h' f' g1 g2 g3 _ => hQ r h' f' ((f2.tr g1).mono (by decide)) g2 (noT (.inr (.inr ⟨ho, ho2⟩))) (by rw [g3, nv]))⟩
  have RC : ∀ (u v : Int32) (k w : Nat), u.toInt = k → k ≤ 17 → v.toInt = w → (w = 32 ∨ w = 64) → w = nmr o → a < 2 ^ w → c < 2 ^ w → (k < 3 → nmt o a c = 0) → (3 ≤ k → nmt o a c = itr w (k - 3) a c) → nmv o a c = (if k < 3 then icn w k a else iop w (k - 3) a c) → xb_k h ex = 10 ∧ w_Exact_reckoned ex u v x y h (fun r12 h11 => xb_ext h h11 → w_Exact_answer_L106 Qr r12 h11) := fun u v k w hu k17 hv w6 hw la lc t1 t2 nv => by
    unfold w_Exact_answer_L106
    refine ⟨k1, xr_reckoned k1 hu k17 hv w6 hx hy la lc (fun r g1 g2 _ => hQ r h f eF.rf hk ?_ ?_) (fun g1 z g2 g3 _ => hT z _ f ((eF.I hk.1).mono (by decide)) (hk.I (by decide) (by decide) (by decide)) ?_ ?_ ?_)⟩
    · rcases Nat.lt_or_ge k 3 with h9 | h9
      · exact t1 h9
      · rw [t2 h9]
        exact g1 h9
    · rw [← hw, nv, ← g2, Nat.mod_mod]
    · rw [xh_iI, if_pos rfl, xh_up, if_pos rfl]
    · rw [t2 g1]
      exact g3
    · rw [t2 g1]
      exact g2
  unfold w_Exact_answer w_Exact_answer_L199 w_Exact_answer_L127 w_Exact_answer_L36
  rw [lt 167 167 rfl, lt 139 139 rfl, lt 103 103 rfl, lt 91 91 rfl, ce 69 69 rfl, ce 80 80 rfl, ge 80 80 rfl, ge 97 97 rfl, ge 121 121 rfl, ge 153 153 rfl]
  refine ⟨fun l167 => ⟨fun l139 => ⟨fun l103 => ⟨fun l91 => ⟨fun e => L173 (.inl e), fun n69 => ⟨fun n80 => ⟨fun g80 => ⟨fun _ => ?_, fun h9 => absurd g80 h9⟩, fun g80 => ⟨fun h9 => absurd h9 g80, fun _ => ?_⟩⟩, fun e => L173 (.inr e)⟩⟩, fun g91 => ⟨fun g97 => ⟨k1, xr_eformat (τ := 124) hk (.inr ⟨rfl, rfl⟩) (fun h2 f2 k2 m2 _ => ⟨fun _ => ?_, fun h9 => absurd g97 h9⟩)⟩, fun g97 => ⟨k1, xr_eformat (τ := 125) hk (.inl ⟨rfl, rfl⟩) (fun h2 f2 k2 m2 _ => ⟨fun h9 => absurd h9 g97, fun _ => ?_⟩)⟩⟩⟩, fun g103 => ⟨fun g121 => ?_, fun g121 => ?_⟩⟩, fun g139 => ⟨fun g153 => ⟨k1, xr_eformat (τ := 124) hk (.inr ⟨rfl, rfl⟩) (fun h2 f2 k2 m2 _ => ⟨fun _ => ?_, fun h9 => absurd g153 h9⟩)⟩, fun g153 => ⟨k1, xr_eformat (τ := 125) hk (.inl ⟨rfl, rfl⟩) (fun h2 f2 k2 m2 _ => ⟨fun h9 => absurd h9 g153, fun _ => ?_⟩)⟩⟩⟩, fun g167 => ⟨k1, ?_⟩⟩
  · have w : nmw o = 64 := by unfold nmw; rw [if_neg (by omega)]
    rw [w] at wa wc
    refine L213 64 _ 64 (o - 81) (by omega) rfl (.inr rfl) (sb 81 81 rfl (by omega)) (by omega) wa wc ?_
    unfold nmv
    rw [if_neg (by omega), if_neg (by omega), if_pos (by omega)]
  · have w : nmw o = 32 := by unfold nmw; rw [if_pos (by omega)]
    rw [w] at wa wc
    refine L213 32 _ 32 (o - 70) (by omega) rfl (.inl rfl) (sb 70 70 rfl (by omega)) (by omega) wa wc ?_
    unfold nmv
    rw [if_neg (by omega), if_pos (by omega)]
  · have w : nmw o = 64 := by unfold nmw; rw [if_neg (by omega)]
    rw [w] at wa wc
    refine L145 h2 97 (o - 97) 53 1023 97 124 (by omega) rfl g97 rfl (by omega) b53 f2 k2 m2 (fW_53.mpr wa) (fW_53.mpr wc) ?_
    unfold nmv
    rw [if_neg (by omega), if_neg (by omega), if_neg (by omega), if_neg (by omega), if_pos (by omega)]
  · have w : nmw o = 32 := by unfold nmw; rw [if_pos (by omega)]
    rw [w] at wa wc
    refine L145 h2 91 (o - 91) 24 127 91 125 (by omega) rfl (by omega) rfl (by omega) b24 f2 k2 m2 (fW_24.mpr wa) (fW_24.mpr wc) ?_
    unfold nmv
    rw [if_neg (by omega), if_neg (by omega), if_neg (by omega), if_pos (by omega)]
  · have w : nmw o = 64 := by unfold nmw; rw [if_neg (by omega)]
    rw [w] at wa wc
    refine RC _ 64 (o - 121) 64 (sb 121 121 rfl g121) (by omega) rfl (.inr rfl) ?_ wa wc (fun h9 => noT (by omega)) (fun h9 => ?_) ?_
    · unfold nmr
      rw [if_neg (by omega)]
    · unfold nmt
      rw [if_neg (by omega), if_pos (by omega), show o - 121 - 3 = o - 124 by omega]
    · unfold nmv
      rw [if_neg (by omega), if_neg (by omega), if_neg (by omega), if_neg (by omega), if_neg (by omega), if_neg (by omega), if_neg (by omega)]
      by_cases h9 : o - 121 < 3
      · rw [if_pos (by omega), if_pos h9]
      · rw [if_neg (by omega), if_pos (by omega), if_neg h9, show o - 121 - 3 = o - 124 by omega]
  · have w : nmw o = 32 := by unfold nmw; rw [if_pos (by omega)]
    rw [w] at wa wc
    refine RC _ 32 (o - 103) 32 (sb 103 103 rfl (by omega)) (by omega) rfl (.inl rfl) ?_ wa wc (fun h9 => noT (by omega)) (fun h9 => ?_) ?_
    · unfold nmr
      rw [if_pos (by omega)]
    · unfold nmt
      rw [if_pos (by omega), show o - 103 - 3 = o - 106 by omega]
    · unfold nmv
      rw [if_neg (by omega), if_neg (by omega), if_neg (by omega), if_neg (by omega), if_neg (by omega)]
      by_cases h9 : o - 103 < 3
      · rw [if_pos (by omega), if_pos h9]
      · rw [if_neg (by omega), if_pos (by omega), if_neg h9, show o - 103 - 3 = o - 106 by omega]
  · have w : nmw o = 64 := by unfold nmw; rw [if_neg (by omega)]
    rw [w] at wa wc
    refine L57 h2 153 (o - 153) 53 1023 153 124 (by omega) (by omega) rfl g153 rfl (by omega) b53 f2 k2 m2 (fW_53.mpr wa) (fW_53.mpr wc) ?_
    unfold nmv
    rw [if_neg (by omega), if_neg (by omega), if_neg (by omega), if_neg (by omega), if_neg (by omega), if_neg (by omega), if_neg (by omega), if_neg (by omega), if_neg (by omega), if_neg (by omega), if_neg (by omega)]
    by_cases h9 : o - 153 < 7
    · rw [if_pos (by omega), if_pos h9]
    · rw [if_neg (by omega), if_pos (by omega), if_neg h9, show o - 153 - 7 = o - 160 by omega]
  · have w : nmw o = 32 := by unfold nmw; rw [if_pos (by omega)]
    rw [w] at wa wc
    refine L57 h2 139 (o - 139) 24 127 139 125 (by omega) (by omega) rfl (by omega) rfl (by omega) b24 f2 k2 m2 (fW_24.mpr wa) (fW_24.mpr wc) ?_
    unfold nmv
    rw [if_neg (by omega), if_neg (by omega), if_neg (by omega), if_neg (by omega), if_neg (by omega), if_neg (by omega), if_neg (by omega), if_neg (by omega), if_neg (by omega)]
    by_cases h9 : o - 139 < 7
    · rw [if_pos (by omega), if_pos h9]
    · rw [if_neg (by omega), if_pos (by omega), if_neg h9, show o - 139 - 7 = o - 146 by omega]
  · have c0 := hc0 (Nat.not_lt.mp g167)
    subst c0
    exact xr_eturnedInto hx1 (Nat.not_lt.mp g167) h2' hk hc hx wa (fun r h' f' j1 j2 j3 j4 _ => hQ r h' f' j1 j2 j3 j4) (fun k h' f' j1 j2 j3 j4 j5 _ => hT k h' f' j1 j2 j3 j4 j5)
end XFI
