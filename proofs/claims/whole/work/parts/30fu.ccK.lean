-- equality: the reference keeps a tape, exactly
section LDZ
variable {own : Nat → Nat} {mm m : Nat} {A : Nat → Nat} {h h' h2 : xb_H} {F F' F2 : Nat → Nat → Int32} {v v' v2 : Nat → Int32} {D : zM} {DM : Nat → zM} {len rl K : Nat}
theorem x_keepTape {st ts bc bs : Nat} {Qr : Int32 → xb_H → Nat → Nat → Prop} (hB : mB own mm A h) (h4 : (v 4).toInt = st) (h2 : (v 2).toInt = ts) (hs : st + ts ≤ 16384)
    (hQ : ∀ w : Nat → Int32, (∀ j, j < st → w j = F (A 3) j) → (∀ j, st ≤ j → j < st + ts → -128 ≤ (w j).toInt ∧ (w j).toInt ≤ 127) → (∀ j, j < ts → w (st + j) = vp_nar .byte (F (A 1) j)) → Qr (v 4) (mH h (va_up F (A 3) w) mm (va_up (va_up v 4 (v 4 + v 2)) 2 0)) bc bs) : w_M_keepTape mm (mH h F mm v) bc bs Qr := by
  obtain ⟨a1, a2, a3, a4⟩ := hB.kx (k := 3) (kd := 100) (n := 16384) (by decide) (by decide)
  obtain ⟨b1, b2, b3, b4⟩ := hB.kx (k := 1) (kd := 100) (n := 65536) (by decide) (by decide)
  have e42 : (v 4 + v 2).toInt = (st + ts : Nat) := z_ad2 h4 h2 (by omega) (by omega)
  have key : ∀ (n k : Nat) (x : Int32) (w : Nat → Int32), ts - k ≤ n → x.toInt = k → k ≤ ts → (∀ j, j < st → w j = F (A 3) j) → (∀ j, st ≤ j → j < st + k → -128 ≤ (w j).toInt ∧ (w j).toInt ≤ 127) → (∀ j, j < k → w (st + j) = vp_nar .byte (F (A 1) j)) → w_M_keepTape_L10 Qr (n + 1) mm x (mH h (va_up F (A 3) w) mm v) bc bs := by
    have out : ∀ (w : Nat → Int32), (∀ j, j < st → w j = F (A 3) j) → (∀ j, st ≤ j → j < st + ts → -128 ≤ (w j).toInt ∧ (w j).toInt ≤ 127) → (∀ j, j < ts → w (st + j) = vp_nar .byte (F (A 1) j)) → ∀ v3 : Int32, v3 = v 4 → ∀ h4 : xb_H, h4 = xb_I (mH h (va_up F (A 3) w) mm v) mm 4 (v 4 + v 2) → ∀ h5 : xb_H, h5 = xb_I h4 mm 2 0 → Qr v3 h5 bc bs := by
      intro w w1 w2 wx v3 e3 h4 e4 h5 e5
      rw [mH_I] at e4
      subst e4
      rw [mH_I] at e5
      subst e5 e3
      exact hQ w w1 w2 wx
    intro n
    induction n with
    | zero =>
      intro k x w hn hx hk w1 w2 wx
      unfold w_M_keepTape_L10
      rw [mH_i]
      refine ⟨hB.2.1, fun _ => out w w1 (fun j j1 j2 => w2 j j1 (by omega)) (fun j hj => wx j (by omega)), fun hle => ?_⟩
      rw [z_le, h2, hx] at hle
      omega
    | succ n ih =>
      intro k x w hn hx hk w1 w2 wx
      unfold w_M_keepTape_L10
      rw [mH_i]
      refine ⟨hB.2.1, fun hle => ?_, fun hle => ⟨A 3, a1, A 1, b1, b2, ?_, a2, ?_, fun h12 e12 => ?_⟩⟩
      · rw [z_le, h2, hx] at hle
        exact out w w1 (fun j j1 j2 => w2 j j1 (by omega)) (fun j hj => wx j (by omega))
      · rw [z_le, h2, hx] at hle
        rw [z_in, hx]
        show _ ∧ _ < ((xb_n h (A 1) : Nat) : Int)
        omega
      · rw [z_le, h2, hx] at hle
        rw [z_in, z_ad2 h4 hx (by omega) (by omega)]
        show _ ∧ _ < ((xb_n h (A 3) : Nat) : Int)
        omega
      · rw [z_le, h2, hx] at hle
        rw [mH_AA a4, z_cl, z_ad2 h4 hx (by omega) (by omega), Int.toNat_natCast] at e12
        subst e12
        refine ih (k + 1) (x + 1) _ (by omega) (z_inc hx (by omega)) (by omega) (fun j hj => ?_) (fun j j1 j2 => ?_) (fun j hj => ?_)
        · rw [xh_up, if_neg (by omega)]
          exact w1 j hj
        · rw [xh_up]
          split
          · exact z_nb
          · exact w2 j j1 (by omega)
        · by_cases ej : j = k
          · subst ej
            rw [xh_up, if_pos rfl, mH_o b4, xh_up, if_neg (hB.ne (by decide) (by decide) (by decide)), z_cl, hx, Int.toNat_natCast]
          · rw [xh_up, if_neg (by omega)]
            exact wx j (by omega)
  unfold w_M_keepTape w_M_reserve w_M_reserve_L55
  rw [mH_i]
  refine ⟨hB.2.1, hB.2.1, A 3, a1, a2, fun _ _ => ⟨ts + 1, ?_⟩, fun hle => ?_⟩
  · have := key ts 0 0 (F (A 3)) (by omega) rfl (by omega) (fun _ _ => rfl) (fun j j1 j2 => by omega) (fun j hj => by omega)
    rw [va_id] at this
    exact this
  · rw [z_le, e42] at hle
    exfalso
    apply hle
    show _ ≤ (nI (xb_n h (A 3))).toInt
    rw [a3, z_nI (by decide)]
    omega
end LDZ
