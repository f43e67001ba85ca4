-- equality, floating point: the reference cuts to whole numbers
section XFE
variable {ex rw_ p b a : Nat} {f : Nat → Nat} {h h' : xb_H} {F : List Nat} {τ : Int} {x y : Int64}
theorem fok_hi {w : Nat} {s : Prop} (hb : fpb τ p b) (w6 : w = 32 ∨ w = 64) (h1 : b + 64 ≤ ffl p b a) : ¬ fok p b a w s := by
  have g := fwp_hi hb h1
  have g2 : 2 ^ (w - 1) ≤ 2 ^ 63 := Nat.pow_le_pow_right (by decide) (by omega)
  have g3 : 2 ^ w ≤ 2 ^ 64 := Nat.pow_le_pow_right (by decide) (by omega)
  have p63 : (2 : Nat) ^ 63 = 9223372036854775808 := by decide
  have p64 : (2 : Nat) ^ 64 = 18446744073709551616 := by decide
  rw [p63] at g2
  rw [p64] at g3
  unfold fok
  generalize fwp p b a = n at *
  rintro (h9 | h9 | h9 | h9)
  · omega
  · omega
  · omega
  · omega
theorem cut_n (hb : fpb τ p b) (h1 : ffl p b a < b + 64) {v : Int64} {u : Int32} (hv : v.toBitVec.toNat = fam p b a) (hu : u.toInt = fwt p b a) : (u < 0 → -u ≤ 62 → (xb_lshr v (-u)).toBitVec.toNat = fwp p b a) ∧ (u < 0 → ¬ -u ≤ 62 → fwp p b a = 0) ∧ (¬ u < 0 → (xb_lshl v u).toBitVec.toNat = fwp p b a) := by
  have hp : (p = 24 ∧ b = 127) ∨ (p = 53 ∧ b = 1023) := by unfold fpb at hb; omega
  have rA := fwt_r (a := a) hb
  have F54 := fam_54 (a := a) hb
  have lt := fwp_lt hb h1
  have d3 := (ffl_d (a := a) hb).2.2
  have wt : fwt p b a = (if ffl p b a = 0 then 1 else (ffl p b a : Int)) - b - (p - 1 : Nat) := rfl
  have nu : (-u).toInt = -fwt p b a := by
    rw [z_neg, hu]
    omega
  rw [z_lt, z_le, hu, nu, show (0 : Int32).toInt = 0 from rfl, show (62 : Int32).toInt = 62 from rfl]
  refine ⟨fun e1 e2 => ?_, fun e1 e2 => ?_, fun e1 => ?_⟩
  · have dn : (-u).toInt = ((-(fwt p b a)).toNat : Nat) := by rw [nu]; omega
    have s := Z_sar (x := v) dn (by omega)
    rw [Z_nn hv (Nat.lt_trans F54 (by decide)), ← Int.natCast_ediv] at s
    have c := Z_nat (xb_lshr v (-u))
    rw [s] at c
    have lp : fam p b a / 2 ^ (-(fwt p b a)).toNat ≤ fam p b a := Nat.div_le_self _ _
    have l2 : fam p b a / 2 ^ (-(fwt p b a)).toNat < 18014398509481984 := Nat.lt_of_le_of_lt lp F54
    unfold fwp
    rw [if_neg (by omega)]
    clear lt F54 lp
    generalize fam p b a / 2 ^ (-(fwt p b a)).toNat = q at *
    omega
  · unfold fwp
    rw [if_neg (by omega)]
    exact Nat.div_eq_of_lt (Nat.lt_of_lt_of_le F54 (Nat.pow_le_pow_right (by decide) (by omega)))
  · have un : u.toInt = ((fwt p b a).toNat : Nat) := by rw [hu]; omega
    have l64 : (fwt p b a).toNat < 64 := by
      split at wt <;> omega
    unfold fwp at lt ⊢
    rw [if_pos (by omega)] at lt ⊢
    rw [Z_shl un l64, hv]
    exact Nat.mod_eq_of_lt lt
theorem xr_ecut {v s : Int32} {w : Nat} {Qr : Int64 → xb_H → Prop} (hk : eK ex rw_ f h) (hm : eP ex τ h) (hb : fpb τ p b) (hv : v.toInt = w) (w6 : w = 32 ∨ w = 64) (hx : x.toBitVec.toNat = a) (wx : fW p b a)
    (hQ : ∀ (r : Int64) (h' : xb_H), eF ex rw_ [8, 9, 10] h h' → eK ex rw_ f h' → fmg p b a ≤ fI_ p b → fok p b a w (s ≠ 0) → r.toBitVec.toNat % 2 ^ w = fcw p b w a → Qr r h')
    (hT : ∀ (c : Int32) (h' : xb_H), eF ex rw_ [0, 8, 9, 10] h h' → eK ex rw_ f h' → xb_i h' ex 0 = c → ((fI_ p b < fmg p b a ∧ c = 4) ∨ (fmg p b a ≤ fI_ p b ∧ ¬ fok p b a w (s ≠ 0) ∧ c = 3)) → Qr 0 h') : w_Exact_cut ex x v s h Qr := by
  have k1 := hk.1.1
  have hp : (p = 24 ∧ b = 127) ∨ (p = 53 ∧ b = 1023) := by unfold fpb at hb; omega
  have bad : ∀ (h2 : xb_H) (c : Int32), eF ex rw_ [8, 9, 10] h h2 → eK ex rw_ f h2 → ((fI_ p b < fmg p b a ∧ c = 4) ∨ (fmg p b a ≤ fI_ p b ∧ ¬ fok p b a w (s ≠ 0) ∧ c = 3)) → ∀ h3, h3 = xb_I h2 ex 0 c → Qr 0 h3 := by
    intro h2 c f2 k2 hc h3 e3
    refine hT c h3 ?_ ?_ ?_ hc
    · rw [e3]
      exact (f2.tr (eF.I k2.1)).mono (by decide)
    · rw [e3]
      exact k2.I (by decide) (by decide) (by decide)
    · rw [e3, xh_iI, if_pos rfl, xh_up, if_pos rfl]
  have hv1 : (v - 1).toInt = (w - 1 : Nat) := by
    rw [z_sub, hv, show (1 : Int32).toInt = 1 from rfl]
    omega
  have s1 : (xb_lshl 1 (v - 1)).toBitVec.toNat = 2 ^ (w - 1) := by
    rw [Z_shl hv1 (by omega), show (1 : Int64).toBitVec.toNat = 1 from rfl, Nat.one_mul]
    refine Nat.mod_eq_of_lt ?_
    have : 2 ^ (w - 1) ≤ 2 ^ 63 := Nat.pow_le_pow_right (by decide) (by omega)
    exact Nat.lt_of_le_of_lt this (by decide)
  have M0 : 0 < 2 ^ (w - 1) := Nat.pow_pos (by decide)
  have s2 : (xb_lshl 1 (v - 1) - 1).toBitVec.toNat = 2 ^ (w - 1) - 1 := by
    rw [Z_subN _ _ (by rw [s1]; exact M0), s1]
    rfl
  have v64 : v = 64 ↔ w = 64 := by rw [z_eq, hv, show (64 : Int32).toInt = 64 from rfl]; omega
  unfold w_Exact_cut
  refine ⟨k1, xr_eisNone k1 hm hb hx (fun r3 _ c3 _ => ⟨fun e3 => xr_eisInfinite k1 hm hb hx (fun r6 _ c6 _ => ⟨fun e6 => ?_, fun e6 => bad h 3 eF.rf hk (.inr ⟨c3.mp e3, ?_, rfl⟩)⟩), fun e3 => bad h 4 eF.rf hk (.inl ⟨Nat.not_le.mp fun h9 => e3 (c3.mpr h9), rfl⟩)⟩)⟩
  · have nn := c3.mp e3
    refine xr_esplit hk hm hb hx wx (fun h8 f8 k8 m8 a8 w8 d8 c8 _ => ?_)
    have wt : fwt p b a = (if ffl p b a = 0 then 1 else (ffl p b a : Int)) - b - (p - 1 : Nat) := rfl
    have far : b + 64 ≤ ffl p b a → w_Exact_cut_L74 Qr ex v s 1 h8 := fun hf => by
      have L186 : ∀ n m : Int64, w_Exact_cut_L186 Qr ex 1 n m h8 := fun n m => by
        unfold w_Exact_cut_L186 w_Exact_cut_L203
        exact ⟨fun _ => ⟨k8.1.1, bad h8 3 f8 k8 (.inr ⟨nn, fok_hi hb w6 hf, rfl⟩)⟩, fun h9 => absurd h9 (by decide)⟩
      unfold w_Exact_cut_L74 w_Exact_cut_L128
      exact ⟨fun h9 => absurd h9 (by decide), fun _ => ⟨fun _ => ⟨k8.1.1, fun _ => ⟨fun _ => L186 _ _, fun _ => L186 _ _⟩, fun _ => L186 _ _⟩, fun _ => ⟨k8.1.1, fun _ => L186 _ _, fun _ => L186 _ _⟩⟩⟩
    have near : ffl p b a < b + 64 → w_Exact_cut_L73 Qr ex v s h8 := fun hf => by
      obtain ⟨n1, n2, n3⟩ := cut_n hb hf a8 w8
      have lt := fwp_lt hb hf
      have L128 : ∀ n : Int64, n.toBitVec.toNat = fwp p b a → w_Exact_cut_L128 Qr ex v s 0 n h8 := fun n hn => by
        have L186 : ∀ (m : Int64) (M : Nat), m.toBitVec.toNat = M → (M < fwp p b a ↔ ¬ fok p b a w (s ≠ 0)) → w_Exact_cut_L186 Qr ex 0 n m h8 := fun m M hm2 hc => by
          unfold w_Exact_cut_L186 w_Exact_cut_L203 w_Exact_cut_L225
          refine ⟨fun h9 => absurd rfl h9, fun _ => xr_below hm2 hn (fun r3 g1 g2 _ => ?_)⟩
          rw [z_b01 g1 g2]
          refine ⟨fun g => ?_, fun g => ⟨k8.1.1, bad h8 3 f8 k8 (.inr ⟨nn, hc.mp (Classical.not_not.mp g), rfl⟩)⟩⟩
          have ok : fok p b a w (s ≠ 0) := Classical.byContradiction fun h9 => g (hc.mpr h9)
          refine ⟨k8.1.1, fun es => hQ n h8 f8 k8 nn ok ?_, fun es => hQ (-n) h8 f8 k8 nn ok ?_⟩
          · unfold fcw
            rw [if_pos (c8.mp es), ps_m w6 hn]
          · unfold fcw
            rw [if_neg (fun h9 => es (c8.mpr h9)), ng_m w6 hn]
        have p32 : (2 : Nat) ^ 32 = 4294967296 := by decide
        have p64 : (2 : Nat) ^ 64 = 18446744073709551616 := by decide
        unfold w_Exact_cut_L128
        rw [v64, c8]
        refine ⟨fun es => ⟨k8.1.1, fun ep => ⟨fun n64 => L186 _ 4294967295 rfl ?_, fun e64 => L186 _ 18446744073709551615 rfl ?_⟩, fun ep => L186 _ 0 rfl ?_⟩, fun es => ⟨k8.1.1, fun ep => L186 _ _ s2 ?_, fun ep => L186 _ _ s1 ?_⟩⟩
        all_goals
          unfold fok
          clear L186 n1 n2 n3 hn far bad hQ hT s1 s2
          generalize fwp p b a = N at *
        · have : w = 32 := by omega
          subst this
          rw [p32]
          have es' : ¬ (s ≠ 0) := fun h9 => h9 es
          refine ⟨fun h9 h8 => ?_, fun h9 => Nat.not_le.mp fun h8 => h9 (.inr (.inr (.inl ⟨es', ep, by omega⟩)))⟩
          rcases h8 with h8 | h8 | h8 | h8
          · exact es' h8.1
          · exact es' h8.1
          · omega
          · exact h8.2.1 ep
        · subst e64
          rw [p64]
          have es' : ¬ (s ≠ 0) := fun h9 => h9 es
          exact ⟨fun h9 => absurd h9 (by omega), fun h9 => absurd (.inr (.inr (.inl ⟨es', ep, lt⟩))) h9⟩
        · have es' : ¬ (s ≠ 0) := fun h9 => h9 es
          refine ⟨fun h9 h8 => ?_, fun h9 => Nat.pos_of_ne_zero fun h8 => h9 (.inr (.inr (.inr ⟨es', ep, h8⟩)))⟩
          rcases h8 with h8 | h8 | h8 | h8
          · exact es' h8.1
          · exact es' h8.1
          · exact ep h8.2.1
          · omega
        · refine ⟨fun h9 h8 => ?_, fun h9 => Nat.not_le.mp fun h8 => h9 (.inl ⟨es, ep, by omega⟩)⟩
          rcases h8 with h8 | h8 | h8 | h8
          · omega
          · exact h8.2.1 ep
          · exact h8.1 es
          · exact h8.1 es
        · refine ⟨fun h9 h8 => ?_, fun h9 => Nat.not_le.mp fun h8 => h9 (.inr (.inl ⟨es, ep, h8⟩))⟩
          rcases h8 with h8 | h8 | h8 | h8
          · exact ep h8.2.1
          · omega
          · exact h8.1 es
          · exact h8.1 es
      unfold w_Exact_cut_L73 w_Exact_cut_L74
      exact ⟨fun _ => ⟨k8.1.1, fun e1 => ⟨fun e2 => L128 _ (n1 e1 e2), fun e2 => L128 0 (by rw [n2 e1 e2]; rfl)⟩, fun e1 => L128 _ (n3 e1)⟩, fun h9 => absurd rfl h9⟩
    have z9 : xb_l h8 ex 9 = 0 ↔ fam p b a = 0 := by rw [Z_eqN, a8]; rfl
    rw [z9]
    refine ⟨fun e => near ?_, fun e => ?_⟩
    · have z : fmg p b a = 0 := Classical.byContradiction fun h9 => absurd e (Nat.pos_iff_ne_zero.mp (fam_p hb h9).1)
      unfold ffl
      rw [z, Nat.zero_div]
      exact Nat.lt_of_lt_of_le (by decide) (Nat.le_add_left _ _)
    · unfold w_Exact_cut_L65
      rcases m8 with ⟨t, i5, i6, i7⟩ | ⟨t, i5, i6, i7⟩
      · have hp2 : p = 24 ∧ b = 127 := by unfold fpb at hb; omega
        rw [i5]
        refine ⟨fun h9 => absurd rfl h9, fun _ => ?_⟩
        rw [z_le, w8, show ((11 : Int32) + 29).toInt = 40 from rfl]
        exact ⟨fun g => near (by split at wt <;> omega), fun g => far (by split at wt <;> omega)⟩
      · have hp2 : p = 53 ∧ b = 1023 := by unfold fpb at hb; omega
        rw [i5]
        refine ⟨fun _ => ?_, fun h9 => absurd h9 (by decide)⟩
        rw [z_le, w8, show ((11 : Int32) + 0).toInt = 11 from rfl]
        exact ⟨fun g => near (by split at wt <;> omega), fun g => far (by split at wt <;> omega)⟩
  · have inf : fmg p b a = fI_ p b := Classical.byContradiction fun h9 => e6 (c6.mpr h9)
    refine fok_hi hb w6 ?_
    rw [fI_fl hb inf]
    omega
end XFE
