-- equality: the reference's Exact is done
theorem nmw_c : ∀ o, o < 192 → 69 ≤ o → ((127 - sgA o) % 2 = 0 ↔ nmw o = 32) ∧ (nmw o = 32 ∨ nmw o = 64) := by decide +kernel
theorem nmr_c : ∀ o, o < 192 → 69 ≤ o → ((127 - sgR o) % 2 = 0 ↔ nmr o = 32) ∧ (nmr o = 32 ∨ nmr o = 64) := by decide +kernel
theorem sgA_r : ∀ o, o < 192 → 69 ≤ o → 124 ≤ sgA o ∧ sgA o ≤ 127 ∧ 124 ≤ sgR o ∧ sgR o ≤ 127 := by decide +kernel
theorem itr_c {w k a b : Nat} : itr w k a b = 0 ∨ itr w k a b = 3 ∨ itr w k a b = 4 := by
  unfold itr
  split
  · exact .inr (.inl rfl)
  · split
    · exact .inr (.inr rfl)
    · exact .inl rfl
theorem cutT_r {p b w a : Nat} {s : Prop} [Decidable s] : cutT p b w a s = 0 ∨ cutT p b w a s = 4 ∨ cutT p b w a s = 5 := by
  unfold cutT
  split
  · exact .inr (.inr rfl)
  · split
    · exact .inl rfl
    · exact .inr (.inl rfl)
theorem nmt_c {o a c : Nat} : nmt o a c = 0 ∨ (3 ≤ nmt o a c ∧ nmt o a c ≤ 5) := by
  have i : ∀ w k, itr w k a c = 0 ∨ (3 ≤ itr w k a c ∧ itr w k a c ≤ 5) := fun w k => by
    rcases itr_c (w := w) (k := k) (a := a) (b := c) with h | h | h <;> omega
  have j : ∀ p b w, cutT p b w a (o % 2 = 0) = 0 ∨ (3 ≤ cutT p b w a (o % 2 = 0) ∧ cutT p b w a (o % 2 = 0) ≤ 5) := fun p b w => by
    rcases cutT_r (p := p) (b := b) (w := w) (a := a) (s := o % 2 = 0) with h | h | h <;> omega
  unfold nmt
  split
  · exact i _ _
  · split
    · exact i _ _
    · split
      · exact j _ _ _
      · split
        · exact j _ _ _
        · split
          · exact j _ _ _
          · split
            · exact j _ _ _
            · exact .inl rfl
section XFJ
variable {ex rw_ a c : Nat} {f : Nat → Nat} {h h' : xb_H} {F : List Nat} {x y : Int64}
theorem ev_2 {r : Int32} {n : Nat} (hr : r.toInt = n) (hn : n ≤ 3) : (r - r / 2 * 2) = 0 ↔ n % 2 = 0 := by
  have e1 : (r / 2).toInt = (n / 2 : Nat) := by
    rw [Int32.toInt_div_of_ne_right _ _ (by decide), hr]
    exact (Int.ofNat_tdiv _ _).symm
  rw [z_eq, z_sub, z_mul, e1, hr, show (2 : Int32).toInt = 2 from rfl, show (0 : Int32).toInt = 0 from rfl]
  omega
theorem xr_erun {x1 : Int32} {o : Nat} {Qr : Int64 → xb_H → Prop} (hx1 : x1.toInt = o) (h1 : 69 ≤ o) (h2' : o < 192) (hk : eK ex rw_ f h) (hx : x.toBitVec.toNat = a) (hy : y.toBitVec.toNat = c) (wa : a < 2 ^ nmw o) (wc : c < 2 ^ nmw o) (hc0 : 167 ≤ o → c = 0)
    (hQ : ∀ (r : Int64) (h' : xb_H) (f' : Nat → Nat), eF ex rw_ eFA h h' → eK ex rw_ f' h' → xb_i h' ex 0 = 0 → nmt o a c = 0 → r.toBitVec.toNat = nmv o a c % 2 ^ nmr o → Qr r h')
    (hT : ∀ (k : Int32) (h' : xb_H) (f' : Nat → Nat), eF ex rw_ eFA h h' → eK ex rw_ f' h' → xb_i h' ex 0 = k → nmt o a c ≠ 0 → k.toInt + 1 = nmt o a c → Qr 0 h') : w_Exact_run ex x1 x y h Qr := by
  obtain ⟨wc1, wc2⟩ := nmw_c o h2' h1
  obtain ⟨rc1, rc2⟩ := nmr_c o h2' h1
  obtain ⟨s1, s2, s3, s4⟩ := sgA_r o h2' h1
  have msk : ∀ (z : Int64) (n : Nat), z.toBitVec.toNat = n → n < 2 ^ 32 → (z &&& 4294967295).toBitVec.toNat = n := fun z n hz hn => by
    rw [Z_and_mod z 32 rfl, hz]
    exact Nat.mod_eq_of_lt hn
  have fe : ∀ r : Int32, r.toInt = 127 - sgA o → ((r - r / 2 * 2) = 0 ↔ nmw o = 32) := fun r hr => by
    obtain ⟨n, hn⟩ : ∃ n : Nat, (127 : Int) - sgA o = n := ⟨(127 - sgA o).toNat, by omega⟩
    rw [ev_2 (n := n) (by rw [hr, hn]) (by omega), ← wc1, hn]
    omega
  have re : ∀ r : Int32, r.toInt = 127 - sgR o → ((r - r / 2 * 2) = 0 ↔ nmr o = 32) := fun r hr => by
    obtain ⟨n, hn⟩ : ∃ n : Nat, (127 : Int) - sgR o = n := ⟨(127 - sgR o).toNat, by omega⟩
    rw [ev_2 (n := n) (by rw [hr, hn]) (by omega), ← rc1, hn]
    omega
  have L18 : w_Exact_run_L18 Qr ex x1 x y 0 ex h := by
    unfold w_Exact_run_L18
    refine ⟨hk.1.1, fun h2 e2 => ?_⟩
    have f2 : eF ex rw_ [0] h h2 := by rw [e2]; exact eF.I hk.1
    have k2 : eK ex rw_ f h2 := by rw [e2]; exact hk.I (by decide) (by decide) (by decide)
    have z2 : xb_i h2 ex 0 = 0 := by rw [e2, xh_iI, if_pos rfl, xh_up, if_pos rfl]
    have L70 : ∀ u v : Int64, u.toBitVec.toNat = a → v.toBitVec.toNat = c → w_Exact_run_L70 Qr ex x1 u v h2 := fun u v hu hv => by
      unfold w_Exact_run_L70 w_Exact_run_L112
      refine ⟨k2.1.1, xr_eanswer hx1 h1 h2' k2 z2 hu hv wa wc hc0 (fun r h' f' g1 g2 g3 g4 _ => ?_) (fun k h' f' g1 g2 g3 g4 g5 _ => ?_)⟩
      · have z' : xb_i h' ex 0 = 0 := by rw [g1.2.2.2.2.2.1 0 (by decide)]; exact z2
        rw [z']
        refine ⟨fun _ => sp_eresult hx1 h1 h2' (fun r6 e6 _ => ?_), fun e9 => absurd (by decide) e9⟩
        rw [re r6 e6]
        refine ⟨fun e => hQ r h' f' ((f2.tr g1).mono (by decide)) g2 z' g3 ?_, fun e => hQ _ h' f' ((f2.tr g1).mono (by decide)) g2 z' g3 ?_⟩
        · have e64 : nmr o = 64 := rc2.resolve_left e
          rw [← g4, e64]
          exact (Nat.mod_eq_of_lt r.toBitVec.isLt).symm
        · rw [← g4, e, Z_and_mod r 32 rfl]
      · have kp : ¬ xb_i h' ex 0 ≤ 0 := by
          rw [g3, z_le, show (0 : Int32).toInt = 0 from rfl]
          rcases nmt_c (o := o) (a := a) (c := c) with h9 | h9
          · exact absurd h9 g4
          · omega
        exact ⟨fun e => absurd e kp, fun _ => hT k h' f' ((f2.tr g1).mono (by decide)) g2 g3 g4 g5⟩
    have L48 : ∀ u : Int64, u.toBitVec.toNat = a → w_Exact_run_L48 Qr ex x1 y u h2 := fun u hu => by
      unfold w_Exact_run_L48
      refine sp_efirst hx1 h1 h2' (fun r2 e2 _ => ?_)
      rw [fe r2 e2]
      exact ⟨fun e => L70 _ _ hu hy, fun e => L70 _ _ hu (msk _ _ hy (by rw [e] at wc; exact wc))⟩
    rw [z2]
    refine ⟨k2.1.1, fun _ => sp_efirst hx1 h1 h2' (fun r6 e6 _ => ?_), fun e => absurd (by decide) e⟩
    rw [fe r6 e6]
    exact ⟨fun e => L48 _ hx, fun e => L48 _ (msk _ _ hx (by rw [e] at wa; exact wa))⟩
  unfold w_Exact_run
  refine sp_eisIn (fun r hr _ => ⟨fun e => ?_, fun _ => L18⟩)
  rcases hr with ⟨g1, g2⟩ | ⟨g1, g2⟩
  · rw [hx1, show (69 : Int32).toInt = 69 from rfl, show (191 : Int32).toInt = 191 from rfl] at g2
    omega
  · rw [g1] at e
    exact absurd e (by decide)
end XFJ
