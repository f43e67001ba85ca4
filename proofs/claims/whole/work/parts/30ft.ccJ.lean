-- equality: the reference's load, exact: its end
section LDY
variable {own own' : Nat → Nat} {mm m : Nat} {A A' : Nat → Nat} {h h' h2 : xb_H} {F F' F2 : Nat → Nat → Int32} {v v' v2 : Nat → Int32} {D : zM} {DM DM' : Nat → zM} {len len' rl K rc rs bc bs bc' bs' : Nat} {Qr : Int32 → xb_H → Nat → Nat → Prop}
theorem x_load196 {x1 x2 : Int32} {en' E : Nat} (hA : rA own mm A h F v DM len rl (K + 1)) (hT : zT own own' h F h' F') (hB' : mB own' mm A' h') (hl' : lenE A' h' len') (hll : len ≤ len') (h33 : xb_n h' (A' 33) = rl) (hex : ∃ (rw_ : Nat) (f : Nat → Nat), own' rw_ = 300 ∧ eK (A' 90) rw_ f (mH h' F' mm v')) (hx1 : x1 = v 4) (hx2 : x2 = v 13)
    (hag : agr (fun k => F (A k)) (fun k => F' (A' k)) (vN v 5) (vN v 4) (vN v 13)) (hot : ∀ k, k ∈ [31, 32, 33, 35, 36, 37, 38, 39, 40, 41, 44, 45, 48, 49, 51, 54, 56, 59, 69, 70, 71, 72, 73, 75, 77, 78, 79, 80] → F' (A' k) = F (A k))
    (hv : ∀ j, j ∉ ldv → v' j = v j) (h2 : v' 2 = 0) (h4 : (v' 4).toInt = E) (hE : E = vN v 4 + vN v 2) (h13 : (v' 13).toInt = en') (hen : en' ≤ len') (hok : v' 17 = 0 → vN v 5 < 64 ∧ vN v 13 ≤ en' ∧ en' ≤ E ∧ mdP (fun k => F' (A' k)) len' (vN v 5) D ∧ mdR D ∧ qe D ≤ E ∧ (∀ s, s < 12 → 0 < qt D s → aV (fun k => F' (A' k)) 8 (12 * vN v 5 + s) + qt D s ≤ en') ∧ MV D (fun b => (F' (A' 12) (aV (fun k => F' (A' k)) 8 (12 * vN v 5 + 10) + b)).toInt))
    (hg' : rG len' rl rc rs K bc' bs') (hQ : ∀ (r : Int32) (F2 : Nat → Nat → Int32) (u : Nat → Int32) (DM2 : Nat → zM), zT own own' h F h' F2 → rA own' mm A' h' F2 u DM2 len' rl K → (∀ a, a ≠ A' 89 → F2 a = F' a) → u 0 = v' 0 → ((∀ j, j ∉ ldv → j ≠ 5 → u j = v j) ∧ u 2 = 0 ∧ ((v' 17 = 0 ∧ (u 5).toInt = (vN v 5 + 1 : Nat)) ∨ (v' 17 ≠ 0 ∧ u 5 = v 5))) → ((v' 17 = 0 ∧ r.toInt = vN v 5 ∧ DM2 = va_up DM (vN v 5) D ∧ F2 (A' 89) 0 = 0 ∧ F2 (A' 89) 1 = 0) ∨ (v' 17 ≠ 0 ∧ r = -1 ∧ DM2 = DM ∧ F2 (A' 89) 0 = v' 17 ∧ F2 (A' 89) 1 = v' 18)) → Qr r (mH h' F2 mm u) bc' bs') : w_M_load_L196 Qr mm x1 x2 (mH h' F' mm v') bc' bs' := by
  obtain ⟨b1, b2, b3, b4⟩ := hB'.kx (k := 89) (kd := 102) (n := 2) (by decide) (by decide)
  obtain ⟨w1, w2, w3, w4, w5, w6, w7, w8⟩ := hA.W1
  obtain ⟨r1, r2, r3, r4, r5⟩ := hA.2.2.1
  have n43 := (hA.n (k := 43) (b := 8192) (by decide)).2
  obtain ⟨n4, n4'⟩ := hA.n (k := 4) (b := 10240) (by decide)
  obtain ⟨n5, n5'⟩ := hA.n (k := 5) (b := 64) (by decide)
  obtain ⟨n13, n13'⟩ := hA.n (k := 13) (b := 10240) (by decide)
  -- the world at the end
  have wld : ∀ (u : Nat → Int32) (st2 en2 nm2 : Nat) (DM2 : Nat → zM), (∀ j, j ∉ ldv → j ≠ 5 → u j = v j) → u 17 = 0 → u 2 = 0 → (u 4).toInt = st2 → (u 13).toInt = en2 → (u 5).toInt = nm2 → vN v 4 ≤ st2 → vN v 13 ≤ en2 → en2 ≤ len' → st2 ≤ E → en2 ≤ st2 → nm2 ≤ 64 → ((nm2 = vN v 5 ∧ DM2 = DM) ∨ (nm2 = vN v 5 + 1 ∧ DM2 = va_up DM (vN v 5) D ∧ mdP (fun k => F' (A' k)) len' (vN v 5) D ∧ mdR D ∧ qe D ≤ st2 ∧ (∀ s, s < 12 → 0 < qt D s → aV (fun k => F' (A' k)) 8 (12 * vN v 5 + s) + qt D s ≤ en2) ∧ MV D (fun b => (F' (A' 12) (aV (fun k => F' (A' k)) 8 (12 * vN v 5 + 10) + b)).toInt))) → rA own' mm A' h' F' u DM2 len' rl K := by
    intro u st2 en2 nm2 DM2 hu u17 u2 u4 u13 u5 s1 s2 s3 s4 s5 s6 hn
    have ev : ∀ k, k ∉ ldv → k ≠ 5 → vN u k = vN v k := fun k k1 k2 => by
      unfold vN
      rw [hu k k1 k2]
    refine rA.mk hB' hl' ⟨h33, r2, r3, by rw [ev 34 (by decide) (by decide)]; exact r4, by rw [vN_of u13]; exact s3⟩ hex ⟨⟨fun x hx => ?_, ⟨u17, by rw [hu 84 (by decide) (by decide)]; exact w2.2.1, by rw [hu 94 (by decide) (by decide)]; exact w2.2.2⟩, ?_, ?_, ?_, ?_, ?_, ?_⟩, ?_⟩
    · have q1 : ∀ x ∈ wB, x.1 = 2 → x.2 = 10240 := by decide
      have q2 : ∀ x ∈ wB, x.1 = 4 → x.2 = 10240 := by decide
      have q3 : ∀ x ∈ wB, x.1 = 13 → x.2 = 10240 := by decide
      have q4 : ∀ x ∈ wB, x.1 = 5 → x.2 = 64 := by decide
      by_cases c1 : x.1 = 2
      · rw [c1, u2, q1 x hx c1]
        decide
      · by_cases c2 : x.1 = 4
        · rw [c2, u4, q2 x hx c2]
          omega
        · by_cases c3 : x.1 = 13
          · rw [c3, u13, q3 x hx c3]
            omega
          · by_cases c4 : x.1 = 5
            · rw [c4, u5, q4 x hx c4]
              omega
            · have : ∀ x ∈ wB, x.1 ≠ 2 → x.1 ≠ 4 → x.1 ≠ 13 → x.1 ≠ 5 → x.1 ∉ ldv := by decide
              rw [hu x.1 (this x hx c1 c2 c3 c4) c4]
              exact w1 x hx
    · rw [vN_of u4, vN_of (n := 0) (by rw [u2]; rfl)]
      omega
    · rw [ev 42 (by decide) (by decide)]
      omega
    · rw [vN_of u13, vN_of u4]
      exact s5
    · rw [ev 46 (by decide) (by decide), ev 30 (by decide) (by decide)]
      exact w6
    · rw [ev 52 (by decide) (by decide), ev 30 (by decide) (by decide)]
      exact w7
    · rw [ev 34 (by decide) (by decide), ev 30 (by decide) (by decide)]
      exact w8
    · refine hA.I.2.ld (D := D) n43 hag hll hot (fun k hk => ?_) (vN_of u4) (vN_of u13) (vN_of u5) s1 s2 hn
      have : ∀ k, k ∈ [30, 34, 42, 43, 46, 47, 52, 53, 58, 62, 63, 64, 68, 76, 81, 93] → k ∉ ldv ∧ k ≠ 5 := by decide
      exact hu k (this k hk).1 (this k hk).2
  have hz : ∀ w, zT own own' h F h' (va_up F' (A' 89) w) := fun w => hT.tr (f0.aw (by rw [hB'.o (by decide)]; omega)).z
  -- the end
  have L239 : ∀ (y0 : Int32) (w : Nat → Int32), (y0 = 1 ∧ v' 17 = 0 ∧ w 0 = 0 ∧ w 1 = 0) ∨ (y0 = 0 ∧ v' 17 ≠ 0 ∧ w 0 = v' 17 ∧ w 1 = v' 18) → w_M_load_L239 Qr mm x1 x2 y0 (mH h' (va_up F' (A' 89) w) mm v') bc' bs' := by
    intro y0 w hy
    unfold w_M_load_L239
    refine ⟨hB'.2.1, fun h2' e2' => ?_⟩
    rw [mH_I] at e2'
    subst e2'
    refine ⟨fun hy0 h4' e4' => ?_, fun hy0 h5' e5' h6' e6' => ?_⟩
    · rw [mH_i, mH_I] at e4'
      subst e4'
      rcases hy with ⟨-, hz17, hw0, hw1⟩ | ⟨hy, -⟩
      · obtain ⟨o1, o2, o3, o4⟩ := hok hz17
        have e5 : (v' 5 + 1).toInt = (vN v 5 + 1 : Nat) := by
          rw [hv 5 (by decide)]
          exact z_inc n5 (by omega)
        refine hQ _ _ _ _ (hz w) ((wld _ E en' (vN v 5 + 1) _ (fun j j1 j2 => ?_) ?_ ?_ ?_ ?_ ?_ (by omega) o2 hen (Nat.le_refl _) o3 (by omega) (.inr ⟨rfl, rfl, o4⟩)).aw (by decide) (by decide) (by decide) (by decide)) (fun a ha => by rw [xh_up, if_neg ha]) (by rw [xh_up, if_neg (by decide), xh_up, if_neg (by decide)]) ⟨fun j j1 j2 => by rw [xh_up, if_neg j2, xh_up, if_neg (fun e => j1 (by rw [e]; decide))]; exact hv j j1, by rw [xh_up, if_neg (by decide), xh_up, if_neg (by decide)]; exact h2, .inl ⟨hz17, by rw [xh_up, if_pos rfl, xh_up, if_neg (by decide)]; exact e5⟩⟩ (.inl ⟨hz17, ?_, rfl, by rw [xh_up, if_pos rfl]; exact hw0, by rw [xh_up, if_pos rfl]; exact hw1⟩)
        · rw [xh_up, if_neg j2, xh_up, if_neg (fun e => j1 (by rw [e]; decide))]
          exact hv j j1
        · rw [xh_up, if_neg (by decide), xh_up, if_pos rfl]
        · rw [xh_up, if_neg (by decide), xh_up, if_neg (by decide)]; exact h2
        · rw [xh_up, if_neg (by decide), xh_up, if_neg (by decide)]; exact h4
        · rw [xh_up, if_neg (by decide), xh_up, if_neg (by decide)]; exact h13
        · rw [xh_up, if_pos rfl, xh_up, if_neg (by decide)]; exact e5
        · rw [mH_i, xh_up, if_pos rfl, xh_up, if_neg (by decide), z_sub, e5]
          simp only [Int32.reduceToInt]
          omega
      · exact absurd hy hy0
    · rw [mH_I] at e5'
      subst e5'
      rw [mH_I] at e6'
      subst e6'
      obtain ⟨hn17, hw0, hw1⟩ : v' 17 ≠ 0 ∧ w 0 = v' 17 ∧ w 1 = v' 18 := by
        rcases hy with ⟨h1, -⟩ | ⟨-, h1⟩
        · rw [h1] at hy0
          exact absurd hy0 (by decide)
        · exact h1
      refine hQ _ _ _ _ (hz w) ((wld _ (vN v 4) (vN v 13) (vN v 5) DM (fun j j1 j2 => ?_) ?_ ?_ ?_ ?_ ?_ (Nat.le_refl _) (Nat.le_refl _) (by omega) (by omega) w5 n5' (.inl ⟨rfl, rfl⟩)).aw (by decide) (by decide) (by decide) (by decide)) (fun a ha => by rw [xh_up, if_neg ha]) (by rw [xh_up, if_neg (by decide), xh_up, if_neg (by decide), xh_up, if_neg (by decide)]) ⟨fun j j1 j2 => by rw [xh_up, if_neg (fun e => j1 (by rw [e]; decide)), xh_up, if_neg (fun e => j1 (by rw [e]; decide)), xh_up, if_neg (fun e => j1 (by rw [e]; decide))]; exact hv j j1, by rw [xh_up, if_neg (by decide), xh_up, if_neg (by decide), xh_up, if_neg (by decide)]; exact h2, .inr ⟨hn17, by rw [xh_up, if_neg (by decide), xh_up, if_neg (by decide), xh_up, if_neg (by decide)]; exact hv 5 (by decide)⟩⟩ (.inr ⟨hn17, rfl, rfl, by rw [xh_up, if_pos rfl]; exact hw0, by rw [xh_up, if_pos rfl]; exact hw1⟩)
      · rw [xh_up, if_neg (fun e => j1 (by rw [e]; decide)), xh_up, if_neg (fun e => j1 (by rw [e]; decide)), xh_up, if_neg (fun e => j1 (by rw [e]; decide))]
        exact hv j j1
      · rw [xh_up, if_neg (by decide), xh_up, if_neg (by decide), xh_up, if_pos rfl]
      · rw [xh_up, if_neg (by decide), xh_up, if_neg (by decide), xh_up, if_neg (by decide)]; exact h2
      · rw [xh_up, if_neg (by decide), xh_up, if_pos rfl, hx1]; exact n4
      · rw [xh_up, if_pos rfl, hx2]; exact n13
      · rw [xh_up, if_neg (by decide), xh_up, if_neg (by decide), xh_up, if_neg (by decide), hv 5 (by decide)]; exact n5
  have L226 : ∀ (y0 : Int32) (w : Nat → Int32), (v' 17 = 0 ∧ w 0 = 0 ∧ y0 = 0) ∨ (v' 17 ≠ 0 ∧ w 0 = v' 17 ∧ y0 = v' 18) → w_M_load_L226 Qr mm x1 x2 y0 1 (A' 89) (mH h' (va_up F' (A' 89) w) mm v') bc' bs' := by
    intro y0 w hy
    unfold w_M_load_L226
    refine ⟨b2, ?_, fun h3 e3 => ?_⟩
    · rw [z_in]
      show _ ∧ _ < ((xb_n h' (A' 89) : Nat) : Int)
      rw [b3]
      decide
    · rw [mH_AA b4] at e3
      subst e3
      rw [mH_i]
      have c1 : Int32.toNatClampNeg 1 = 1 := rfl
      refine ⟨hB'.2.1, fun h9 => L239 0 _ (.inr ⟨rfl, h9, ?_, ?_⟩), fun h9 => L239 1 _ (.inl ⟨rfl, h9, ?_, ?_⟩)⟩
      · rcases hy with ⟨h1, -⟩ | ⟨-, h1, h2⟩
        · exact absurd h1 h9
        · rw [xh_up, if_neg (by decide)]
          exact h1
      · rcases hy with ⟨h1, -⟩ | ⟨-, h1, h2⟩
        · exact absurd h1 h9
        · rw [c1, xh_up, if_pos rfl]
          exact h2
      · rcases hy with ⟨-, h1, h2⟩ | ⟨h1, -⟩
        · rw [xh_up, if_neg (by decide)]
          exact h1
        · exact absurd h9 h1
      · rcases hy with ⟨-, h1, h2⟩ | ⟨h1, -⟩
        · rw [c1, xh_up, if_pos rfl]
          exact h2
        · exact absurd h9 h1
  unfold w_M_load_L196
  rw [mH_i]
  refine ⟨hB'.2.1, A' 89, b1, b2, ?_, fun h5 e5 => ?_⟩
  · rw [z_in]
    show _ ∧ _ < ((xb_n h' (A' 89) : Nat) : Int)
    rw [b3]
    decide
  · rw [mH_A b4] at e5
    subst e5
    rw [mH_i]
    have c0 : Int32.toNatClampNeg 0 = 0 := rfl
    exact ⟨A' 89, b1, fun h9 => L226 _ _ (.inr ⟨h9, by rw [c0, xh_up, if_pos rfl], rfl⟩), fun h9 => L226 _ _ (.inl ⟨h9, by rw [c0, xh_up, if_pos rfl]; exact h9, rfl⟩)⟩
end LDY
