-- the reference's exact numbers: whole, floating, reformed, cut, product
def eFA : List Nat := [0, 2, 3, 4, 5, 6, 7, 8, 9, 10]
section EX6
variable {ex rw_ : Nat} {f g : Nat → Nat} {h h' h2 : xb_H} {F F2 : List Nat}
theorem eM.fr (hm : eM ex h) (e1 : eF ex rw_ F h h') (hF : 5 ∉ F ∧ 6 ∉ F ∧ 7 ∉ F) : eM ex h' := by
  unfold eM
  rw [e1.2.2.2.2.2.1 5 hF.1, e1.2.2.2.2.2.1 6 hF.2.1, e1.2.2.2.2.2.1 7 hF.2.2]
  exact hm
/-- a number split: what it says of its size and place -/
theorem sp_esplit2 {x : Int64} {Qr : xb_H → Prop} (hk : eK ex rw_ f h) (hm : eM ex h)
    (hQ : ∀ (h' : xb_H) (p : Nat), 1126 ≤ p → p ≤ 3200 → eF ex rw_ [8, 9, 10] h h' → eK ex rw_ f h' → eM ex h' → (xb_l h' ex 9).toBitVec.toNat < 2 ^ 53 → (x &&& ((xb_lshl 1 ((xb_i h ex 5) - 1)) - 1) ≠ 0 → (xb_l h' ex 9).toBitVec.toNat ≠ 0) → 2200 + (xb_i h' ex 10).toInt = p → Qr h') : w_Exact_split ex x h Qr := by
  refine sp_esplit hk hm (fun h' fr bi s c1 c2 c3 f1 k1 m1 a1 w1 => ?_)
  have e1 := eAm_lt c1
  have hp : (-1074 : Int) ≤ (eWt fr s : Int) - bi - fr ∧ (eWt fr s : Int) - bi - fr ≤ 1000 := by
    rcases c1 with ⟨q1, q2, q3⟩ | ⟨q1, q2, q3⟩ <;> omega
  refine hQ h' (2200 + ((eWt fr s : Int) - bi - fr)).toNat (by omega) (by omega) f1 k1 m1 (by rw [a1]; exact e1.1) (fun hx => ?_) (by rw [w1]; omega)
  rw [a1]
  refine e1.2.2.2.2 (fun h0 => hx ?_)
  rw [Z_zero, c2]
  exact h0
theorem eU_zero {m a : Nat} : eU (fun _ => 0) a m = 0 := eU_z (fun _ _ => rfl)
/-- a cell that is free takes a one -/
theorem sp_eadd1 {x3 : Int32} {p : Nat} {Qr : xb_H → Prop} (hk : eK ex rw_ f h) (hp : 2200 + x3.toInt = p) (hp2 : p < 4400) (h0 : f p = 0) (hQ : ∀ (f' : Nat → Nat) (h' : xb_H), eF ex rw_ [2, 3] h h' → eK ex rw_ f' h' → (∀ j, j < p → f' j = f j) → Qr h') : w_Exact_add ex 1 x3 h Qr := by
  refine sp_eadd hk hp hp2 ?_ (fun f' h' g1 g2 g3 _ => hQ f' h' g1 g2 g3)
  obtain ⟨m, hm⟩ : ∃ m, 4400 - p = 1 + m := ⟨4400 - p - 1, by omega⟩
  obtain ⟨-, -, lo, hi, -, -, -, -, k7, -⟩ := hk
  have e1 := eU_lt (f := f) (fun j => (k7 j).2) (m := m) (a := p + 1)
  rw [hm, eU_sp, show eU f p 1 = 0 from by unfold eU eU; omega, Nat.pow_add, show (1 : Int64).toBitVec.toNat = 1 from rfl]
  omega
/-- cleared, a number laid, rounded -/
theorem sp_eclad {x1 : Int64} {x3 v : Int32} {p : Nat} {Qr : Int64 → xb_H → Prop} (hk : eK ex rw_ (fun _ => 0) h) (hm : eM ex h) (hp : 2200 + x3.toInt = p) (hp2 : p ≤ 4300) (hQ : ∀ (r : Int64) (h' : xb_H) (f' : Nat → Nat), eF ex rw_ [2, 3] h h' → eK ex rw_ f' h' → Qr r h') : w_Exact_add ex x1 x3 h (fun h6 => xb_ext h h6 → xb_k h6 ex = 10 ∧ w_Exact_rounded ex v h6 (fun r9 h8 => xb_ext h6 h8 → Qr r9 h8)) := by
  refine sp_eadd hk hp (by omega) ?_ (fun f' h' g1 g2 g3 g4 _ => ⟨g2.1.1, sp_erounded g2 (hm.fr g1 (by decide)) (fun r _ => hQ r h' f' g1 g2)⟩)
  rw [eU_zero]
  have e1 : x1.toBitVec.toNat < 2 ^ 64 := x1.toBitVec.isLt
  have e2 : 2 ^ 64 ≤ 2 ^ (4400 - p) := Nat.pow_le_pow_right (by omega) (by omega)
  omega
theorem sp_ewhole {w : Int32} {x : Int64} {Qr : Int64 → xb_H → Prop} (hk : eK ex rw_ f h) (hm : eM ex h) (hQ : ∀ (r : Int64) (h' : xb_H) (f' : Nat → Nat), eF ex rw_ eFA h h' → eK ex rw_ f' h' → Qr r h') : w_Exact_whole ex w x h Qr := by
  have k1 := hk.1
  have same : ∀ r, Qr r h := fun r => hQ r h f eF.rf hk
  have L259 : ∀ (h8 : xb_H) (y : Int64), eF ex rw_ [8, 9, 10] h h8 → eK ex rw_ f h8 → eM ex h8 → w_Exact_whole_L259 Qr ex y h8 := by
    intro h8 y f8 k8 m8
    unfold w_Exact_whole_L259
    refine ⟨fun _ => ⟨k8.1.1, fun v3 _ => sp_eclear k8 (fun h4 f4 k4 _ => ?_)⟩, fun _ => ⟨k8.1.1, sp_esigned k8.1.1 (fun r _ => hQ r h8 f (f8.mono (by decide)) k8)⟩⟩
    refine sp_eadd k4 (p := 2200) rfl (by omega) ?_ (fun f' h' g1 g2 g3 g4 _ => sp_erounded g2 ((m8.fr f4 (by decide)).fr g1 (by decide)) (fun r _ => hQ r h' f' (((f8.tr f4).tr g1).mono (by decide)) g2))
    rw [eU_zero]
    have e1 : y.toBitVec.toNat < 2 ^ 64 := y.toBitVec.isLt
    have e2 : 2 ^ 64 ≤ 2 ^ (4400 - 2200) := Nat.pow_le_pow_right (by omega) (by omega)
    omega
  have L56 : ∀ (h8 : xb_H) (y : Int64), eF ex rw_ [8, 9, 10] h h8 → eK ex rw_ f h8 → eM ex h8 → w_Exact_whole_L56 Qr ex w y h8 := by
    intro h8 y f8 k8 m8
    have L243 : ∀ y0, w_Exact_whole_L243 Qr ex y y0 h8 := fun y0 => by
      unfold w_Exact_whole_L243
      exact ⟨fun _ => L259 h8 _ f8 k8 m8, fun _ => L259 h8 _ f8 k8 m8⟩
    have L161 : ∀ x6 x7 y0, w_Exact_whole_L161 Qr ex w y x6 x7 y0 h8 := fun x6 x7 y0 => by
      unfold w_Exact_whole_L161 w_Exact_whole_L242 w_Exact_whole_L238 w_Exact_whole_L209 w_Exact_whole_L184
      exact ⟨fun _ => ⟨fun _ => ⟨fun _ => L243 _, fun _ => ⟨fun _ => L243 _, fun _ => ⟨fun _ => L243 _, fun _ => ⟨fun _ => L243 _, fun _ => L243 _⟩⟩⟩⟩, fun _ => ⟨fun _ => L243 _, fun _ => ⟨k8.1.1, fun _ => L243 _, fun _ => L243 _⟩⟩⟩, fun _ => ⟨fun _ => L243 _, fun _ => ⟨k8.1.1, fun _ => L243 _, fun _ => L243 _⟩⟩⟩
    have L125 : ∀ x6 y0, w_Exact_whole_L125 Qr ex w y x6 y0 h8 := fun x6 y0 => by
      unfold w_Exact_whole_L125 w_Exact_whole_L160
      exact ⟨fun _ => L161 _ _ _, fun _ => ⟨k8.1.1, fun _ => L161 _ _ _, fun _ => L161 _ _ _⟩⟩
    have L89 : ∀ y0, w_Exact_whole_L89 Qr ex w y y0 h8 := fun y0 => by
      unfold w_Exact_whole_L89 w_Exact_whole_L124
      exact ⟨k8.1.1, fun _ => L125 _ _, fun _ => ⟨fun _ => L125 _ _, fun _ => L125 _ _⟩⟩
    unfold w_Exact_whole_L56 w_Exact_whole_L84
    exact ⟨k8.1.1, fun _ => L89 _, fun _ => ⟨fun _ => L89 _, fun _ => L89 _⟩⟩
  unfold w_Exact_whole w_Exact_whole_L16
  refine ⟨k1.1, sp_eisInfinite k1.1 (fun r3 _ => ⟨fun _ => same _, fun _ => sp_eisZero k1.1 (fun r6 _ _ => ⟨fun _ => ?_, fun _ => same _⟩)⟩)⟩
  refine sp_esplit2 hk hm (fun h8 p p1 p2 f8 k8 m8 _ _ _ _ => ⟨fun _ => ⟨fun _ => L56 h8 _ f8 k8 m8, fun _ => L56 h8 _ f8 k8 m8⟩, fun _ => hQ _ h8 f (f8.mono (by decide)) k8⟩)
theorem sp_efloating {x : Int64} {s : Int32} {Qr : Int64 → xb_H → Prop} (hk : eK ex rw_ f h) (hm : eM ex h) (hQ : ∀ (r : Int64) (h' : xb_H) (f' : Nat → Nat), eF ex rw_ eFA h h' → eK ex rw_ f' h' → Qr r h') : w_Exact_floating ex x s h Qr := by
  have L23 : ∀ y, w_Exact_floating_L23 Qr ex x y h := fun y => by
    unfold w_Exact_floating_L23 w_Exact_floating_L41
    refine ⟨hk.1.1, sp_eclear hk (fun h4 f4 k4 _ => ?_)⟩
    have : ∀ z : Int64, xb_k h4 ex = 10 ∧ w_Exact_add ex z 0 h4 (fun h6 => xb_ext h4 h6 → xb_k h6 ex = 10 ∧ w_Exact_rounded ex y h6 (fun r9 h8 => xb_ext h6 h8 → Qr r9 h8)) := fun z => ⟨k4.1.1, sp_eclad (p := 2200) k4 (hm.fr f4 (by decide)) rfl (by omega) (fun r h' f' g1 g2 => hQ r h' f' ((f4.tr g1).mono (by decide)) g2)⟩
    exact ⟨fun _ => this _, fun _ => this _⟩
  unfold w_Exact_floating w_Exact_floating_L22
  exact ⟨fun _ => ⟨fun _ => L23 _, fun _ => ⟨fun _ => L23 _, fun _ => L23 _⟩⟩, fun _ => hQ 0 h f eF.rf hk⟩
theorem sp_ereformed {x : Int64} {w : Int32} {Qr : Int64 → xb_H → Prop} (hk : eK ex rw_ f h) (hm : eM ex h) (hw : w = 32 ∨ w = 64) (hQ : ∀ (r : Int64) (h' : xb_H) (f' : Nat → Nat), eF ex rw_ eFA h h' → eK ex rw_ f' h' → Qr r h') : w_Exact_reformed ex x w h Qr := by
  have k1 := hk.1
  have L48 : ∀ (h8 : xb_H) (a b c d : Int32), eF ex rw_ [8, 9, 10] h h8 → eK ex rw_ f h8 → (a = 0 → b = 0 → c = 0 → ∃ p : Nat, p ≤ 3200 ∧ 2200 + (xb_i h8 ex 10).toInt = p) → w_Exact_reformed_L48 Qr ex w a b c d h8 := by
    intro h8 a b c d f8 k8 hp
    unfold w_Exact_reformed_L48
    refine ⟨k8.1.1, sp_eformat k8 hw (fun h2 f2 k2 m2 _ => ?_)⟩
    have fin : ∀ r, Qr r h2 := fun r => hQ r h2 f ((f8.tr f2).mono (by decide)) k2
    have L73 : w_Exact_reformed_L73 Qr ex b d h2 := by
      unfold w_Exact_reformed_L73 w_Exact_reformed_L94
      exact ⟨fun _ => ⟨k2.1.1, sp_esigned k2.1.1 (fun r _ => fin r)⟩, fun _ => ⟨k2.1.1, sp_einfinite k2.1.1 (fun r _ => fin r)⟩⟩
    refine ⟨fun e1 => ⟨fun _ => L73, fun e2 => ⟨fun e3 => ?_, fun _ => L73⟩⟩, fun _ => sp_enoNumber k2.1.1 (fun r _ => fin r)⟩
    obtain ⟨p, p1, p2⟩ := hp e1 e2 e3
    refine sp_eclear k2 (fun h4 f4 k4 _ => ?_)
    refine sp_eadd k4 (p := p) ?_ (by omega) ?_ (fun f' h' g1 g2 g3 g4 _ => sp_erounded g2 ((m2.fr f4 (by decide)).fr g1 (by decide)) (fun r _ => hQ r h' f' ((((f8.tr f2).tr f4).tr g1).mono (by decide)) g2))
    · rw [f4.2.2.2.2.2.1 10 (by decide), f2.2.2.2.2.2.1 10 (by decide)]
      exact p2
    · rw [eU_zero]
      have e1 : (xb_l h4 ex 9).toBitVec.toNat < 2 ^ 64 := (xb_l h4 ex 9).toBitVec.isLt
      have e2 : 2 ^ 64 ≤ 2 ^ (4400 - p) := Nat.pow_le_pow_right (by omega) (by omega)
      omega
  unfold w_Exact_reformed
  refine ⟨k1.1, sp_eisNone k1.1 (fun r3 _ => sp_eisInfinite k1.1 (fun r5 _ => sp_eisZero k1.1 (fun r7 _ _ => sp_eisMinus k1.1 (fun r9 _ _ => ?_))))⟩
  refine ⟨fun e1 => L48 h _ _ _ _ eF.rf hk (fun e2 => absurd e2 e1), fun _ => ⟨fun e1 => L48 h _ _ _ _ eF.rf hk (fun _ e2 => absurd e2 e1), fun _ => ⟨fun e1 => L48 h _ _ _ _ eF.rf hk (fun _ _ e2 => absurd e2 e1), fun _ => ?_⟩⟩⟩
  exact sp_esplit2 hk hm (fun h8 p p1 p2 f8 k8 m8 _ _ e _ => L48 h8 _ _ _ _ f8 k8 (fun _ _ _ => ⟨p, p2, e⟩))
theorem sp_ecut {x : Int64} {w s : Int32} {Qr : Int64 → xb_H → Prop} (hk : eK ex rw_ f h) (hm : eM ex h) (hQ : ∀ (r : Int64) (h' : xb_H) (f' : Nat → Nat), eF ex rw_ eFA h h' → eK ex rw_ f' h' → Qr r h') : w_Exact_cut ex x w s h Qr := by
  have k1 := hk.1
  have bad : ∀ (h2 : xb_H) (c : Int32), eF ex rw_ [8, 9, 10] h h2 → eK ex rw_ f h2 → ∀ h3, h3 = xb_I h2 ex 0 c → Qr 0 h3 := by
    intro h2 c f2 k2 h3 e3
    rw [e3]
    exact hQ _ _ f ((f2.tr (eF.I k2.1)).mono (by decide)) (k2.I (by omega) (by omega) (by omega))
  unfold w_Exact_cut
  refine ⟨k1.1, sp_eisNone k1.1 (fun r3 _ => ⟨fun _ => sp_eisInfinite k1.1 (fun r6 _ => ⟨fun _ => ?_, fun _ => bad h 3 eF.rf hk⟩), fun _ => bad h 4 eF.rf hk⟩)⟩
  refine sp_esplit2 hk hm (fun h8 p p1 p2 f8 k8 m8 _ _ e _ => ?_)
  have L186 : ∀ a b c, w_Exact_cut_L186 Qr ex a b c h8 := by
    intro a b c
    unfold w_Exact_cut_L186 w_Exact_cut_L203 w_Exact_cut_L225
    exact ⟨fun _ => ⟨k8.1.1, bad h8 3 f8 k8⟩, fun _ => sp_ebelow (fun r _ _ => ⟨fun _ => ⟨k8.1.1, fun _ => hQ _ h8 f (f8.mono (by decide)) k8, fun _ => hQ _ h8 f (f8.mono (by decide)) k8⟩, fun _ => ⟨k8.1.1, bad h8 3 f8 k8⟩⟩)⟩
  have L128 : ∀ a b, w_Exact_cut_L128 Qr ex w s a b h8 := by
    intro a b
    unfold w_Exact_cut_L128
    exact ⟨fun _ => ⟨k8.1.1, fun _ => ⟨fun _ => L186 _ _ _, fun _ => L186 _ _ _⟩, fun _ => L186 _ _ _⟩, fun _ => ⟨k8.1.1, fun _ => L186 _ _ _, fun _ => L186 _ _ _⟩⟩
  have L74 : ∀ a, w_Exact_cut_L74 Qr ex w s a h8 := by
    intro a
    unfold w_Exact_cut_L74
    exact ⟨fun _ => ⟨k8.1.1, fun _ => ⟨fun _ => L128 _ _, fun _ => L128 _ _⟩, fun _ => L128 _ _⟩, fun _ => L128 _ _⟩
  have L65 : ∀ a b c, w_Exact_cut_L65 Qr ex w s a b c h8 := by
    intro a b c
    unfold w_Exact_cut_L65 w_Exact_cut_L73
    exact ⟨fun _ => L74 _, fun _ => L74 _⟩
  exact ⟨fun _ => L74 _, fun _ => ⟨fun _ => L65 _ _ _, fun _ => L65 _ _ _⟩⟩
end EX6
