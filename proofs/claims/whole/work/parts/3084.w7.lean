-- the world: a memory grows
section W7
variable {own own' ad ad' : Nat → Nat} {h h' : xb_H} {W : wD} {σ : Nat}
theorem used_pages {np : Nat} {Qr : Int32 → xb_H → Prop} (hB : cB own ad h) (hR : xr_row h (ad 25) 1 (8192 * np) (ad 26)) (hp : np ≤ 16) (hQ : ∀ r : Int32, r.toInt = np → Qr r h) : w_World_usedPages (ad 14) h Qr := by
  unfold w_World_usedPages
  refine ⟨hB.k 14 (by omega), ad 25, hB.r (14, 5, 25) (by decide), hR.1, hQ _ ?_⟩
  have := hR.2.2.1
  rw [Int32.toInt_div_of_ne_left _ _ (fun e => by rw [e] at this; have h9 : (Int32.minValue).toInt = -2147483648 := rfl; omega), this]
  show Int.tdiv ((8192 * np : Nat) : Int) 8192 = np
  rw [Int.tdiv_eq_ediv_of_nonneg (by omega)]
  omega
/-- what may change while a memory grows -/
def gR (own ad own' ad' : Nat → Nat) (h h' : xb_H) (ma sl : Nat) : Prop :=
  cB own' ad' h' ∧ (∀ k, k ≠ 26 → ad' k = ad k) ∧ (∀ a, xb_k h a ≠ 0 → own' a = own a) ∧ xb_ext h h' ∧ (∀ a, xb_k h a ≠ 0 → a ≠ ad 25 → a ≠ ad 26 → a ≠ ma → a ≠ sl → xh_sm h h' a) ∧ (xb_r h' ma = xb_r h ma ∧ xb_l h' ma = xb_l h ma ∧ ∀ j, j ≠ 3 → xb_i h' ma j = xb_i h ma j) ∧ (ad' 26 = ad 26 ∨ xb_k h (ad' 26) = 0)
/-- what a growth writes: new pages' numbers, new words are zero, old ones stay -/
def grX (ad ad' : Nat → Nat) (h h' : xb_H) (sl pc np more : Nat) : Prop :=
  (∀ j, pc ≤ j → j < pc + more → (xb_i h' sl j).toInt = (np + (j - pc) : Nat)) ∧ (∀ j, j < 8192 * np → xb_l h' (ad' 26) j = xb_l h (ad 26) j) ∧ ∀ j, 8192 * np ≤ j → j < 8192 * (np + more) → xb_l h' (ad' 26) j = 0
theorem wI_grow {ma sl pc np rc rs bc bs : Nat} {x2 : Int64} {Qr : Int32 → xb_H → Nat → Nat → Prop} (hB : cB own ad h) (hR : xr_row h (ad 25) 1 (8192 * np) (ad 26)) (hnp : np ≤ 16) (km : xb_k h ma = 13) (om : own ma = 50) (hms : (xb_l h ma 1).toInt = -1 ∨ 0 ≤ (xb_l h ma 1).toInt ∧ (xb_l h ma 1).toInt ≤ 65536) (rsl : xb_r h ma 2 = some sl) (ks : xb_k h sl = 102) (os : own sl = 51) (ns : xb_n h sl = 16) (hpc : (xb_i h ma 3).toInt = pc) (hpn : pc ≤ np) (hx : 0 ≤ x2.toInt ∧ x2.toInt < 4294967296) (hg : bg ad h rc rs bc bs)
    (hQ1 : ∀ (h' : xb_H) (own' ad' : Nat → Nat) (more bc' bs' : Nat) (r : Int32), x2.toInt = more → np + more ≤ 16 → r.toInt = pc → gR own ad own' ad' h h' ma sl → xr_row h' (ad 25) 1 (8192 * (np + more)) (ad' 26) → (xb_i h' ma 3).toInt = (pc + more : Nat) → (∀ j, j < pc → xb_i h' sl j = xb_i h sl j) → (∀ j, pc ≤ j → j < pc + more → 0 ≤ (xb_i h' sl j).toInt ∧ (xb_i h' sl j).toInt < (np + more : Nat)) → grX ad ad' h h' sl pc np more → ((xb_l h ma 1).toInt ≠ -1 → ((pc + more : Nat) : Int) ≤ (xb_l h ma 1).toInt) → bg ad' h' rc rs bc' bs' → Qr r h' bc' bs')
    (hQ2 : (16 < (np : Int) + x2.toInt ∨ ((xb_l h ma 1).toInt ≠ -1 ∧ (xb_l h ma 1).toInt < pc + x2.toInt) ∨ 65536 < (pc : Int) + x2.toInt) → Qr (-1) h bc bs) : w_World_grow (ad 14) ma x2 h bc bs Qr := by
  have k14 : xb_k h (ad 14) = 7 := hB.k 14 (by omega)
  have hms' : ma ≠ sl := fun e => by rw [e, ks] at km; cases km
  have nma : ∀ k, k < 41 → ma ≠ ad k := fun k hk => hB.nk hk om (by omega)
  have nsl : ∀ k, k < 41 → sl ≠ ad k := fun k hk => hB.nk hk os (by omega)
  have loop : ∀ (more : Nat) (x6 : Int32), x2.toInt = more → np + more ≤ 16 → x6.toInt = pc → ((xb_l h ma 1).toInt ≠ -1 → ((pc + more : Nat) : Int) ≤ (xb_l h ma 1).toInt) → ∀ (m : Nat) (x7 : Int32) (k : Nat) (h1 : xb_H) (own1 ad1 : Nat → Nat) (bc1 bs1 : Nat), x7.toInt = k → k ≤ more → more - k ≤ m → gR own ad own1 ad1 h h1 ma sl → xr_row h1 (ad 25) 1 (8192 * (np + k)) (ad1 26) → (∀ j, j < pc → xb_i h1 sl j = xb_i h sl j) → (∀ j, pc ≤ j → j < pc + k → 0 ≤ (xb_i h1 sl j).toInt ∧ (xb_i h1 sl j).toInt < (np + more : Nat)) → grX ad ad1 h h1 sl pc np k → bg ad1 h1 rc rs bc1 bs1 → w_World_grow_L82 Qr (m + 1) (ad 14) ma x2 x6 x7 h1 bc1 bs1 := by
    intro more x6 hmore hnm hx6 hmst m
    have fin : ∀ (h1 : xb_H) (own1 ad1 : Nat → Nat) (bc1 bs1 : Nat), gR own ad own1 ad1 h h1 ma sl → xr_row h1 (ad 25) 1 (8192 * (np + more)) (ad1 26) → (∀ j, j < pc → xb_i h1 sl j = xb_i h sl j) → (∀ j, pc ≤ j → j < pc + more → 0 ≤ (xb_i h1 sl j).toInt ∧ (xb_i h1 sl j).toInt < (np + more : Nat)) → grX ad ad1 h h1 sl pc np more → bg ad1 h1 rc rs bc1 bs1 → xb_k h1 ma = 13 ∧ ∀ h3 : xb_H, h3 = xb_I h1 ma 3 (x6 + (Int64.toInt32 x2)) → Qr x6 h3 bc1 bs1 := by
      intro h1 own1 ad1 bc1 bs1 g1 g2 g3 g4 g6 g5
      obtain ⟨r1, r2, r3, r4, r5, ⟨r6, r7, r8⟩, r9⟩ := g1
      refine ⟨r4.k (c := 12) km, fun h3 e3 => ?_⟩
      have e4 : (x6 + Int64.toInt32 x2).toInt = (pc + more : Nat) := by
        rw [z_add, hx6, z_l2i hmore (by omega)]
        omega
      have i3 : ∀ a, a ≠ ma → xb_i h3 a = xb_i h1 a := fun a ha => by rw [e3, xh_iI, if_neg ha]
      have im3 : xb_i h3 ma = va_up (xb_i h1 ma) 3 (x6 + Int64.toInt32 x2) := by rw [e3, xh_iI, if_pos rfl]
      have a25 : ad 25 ≠ ma := (nma 25 (by omega)).symm
      refine hQ1 h3 own1 ad1 more bc1 bs1 x6 hmore hnm hx6 ⟨by rw [e3]; exact r1, r2, r3, by rw [e3]; exact r4, fun a ha c1 c2 c3 c4 => (r5 a ha c1 c2 c3 c4).tr (by rw [e3]; exact xh_smI _ _ _ c3), ⟨by rw [e3]; exact r6, by rw [e3]; exact r7, fun j hj => by rw [im3, xh_up, if_neg hj]; exact r8 j hj⟩, r9⟩ (g2.fr (by rw [e3]; exact xh_smI _ _ _ a25) (by rw [e3]; exact fun a _ => ⟨rfl, rfl⟩)) (by rw [im3, xh_up, if_pos rfl]; exact e4) (fun j hj => by rw [i3 sl hms'.symm]; exact g3 j hj) (fun j h1 h2 => by rw [i3 sl hms'.symm]; exact g4 j h1 h2) ⟨fun j h1 h2 => by rw [i3 sl hms'.symm]; exact g6.1 j h1 h2, fun j h1 => by rw [e3, xh_lI]; exact g6.2.1 j h1, fun j h1 h2 => by rw [e3, xh_lI]; exact g6.2.2 j h1 h2⟩ hmst (by rw [e3]; exact g5)
    induction m with
    | zero =>
      intro x7 k h1 own1 ad1 bc1 bs1 e7 hk hm g1 g2 g3 g4 g6 g5
      have ek : k = more := by omega
      subst ek
      unfold w_World_grow_L82
      refine ⟨fun _ => fin h1 own1 ad1 bc1 bs1 g1 g2 g3 g4 g6 g5, fun e => ?_⟩
      rw [Z_le, Z_of32, hmore, e7] at e
      omega
    | succ m ih =>
      intro x7 k h1 own1 ad1 bc1 bs1 e7 hk hm g1 g2 g3 g4 g6 g5
      unfold w_World_grow_L82
      refine ⟨fun e => ?_, fun e => ?_⟩
      · rw [Z_le, Z_of32, hmore, e7] at e
        have ek : k = more := by omega
        subst ek
        exact fin h1 own1 ad1 bc1 bs1 g1 g2 g3 g4 g6 g5
      · rw [Z_le, Z_of32, hmore, e7] at e
        obtain ⟨r1, r2, r3, r4, r5, ⟨r6, r7, r8⟩, r9⟩ := id g1
        have a14 := r2 14 (by omega)
        have a25 := r2 25 (by omega)
        have km1 : xb_k h1 ma = 13 := r4.k (c := 12) km
        have ks1 : xb_k h1 sl = 102 := r4.k (c := 101) ks
        have ns1 : xb_n h1 sl = 16 := by rw [r4.n (c := 101) ks]; exact ns
        have e67 : (x6 + x7).toInt = (pc + k : Nat) := by rw [z_add, hx6, e7]; omega
        have c67 : (x6 + x7).toNatClampNeg = pc + k := by rw [z_cl, e67, Int.toNat_natCast]
        have hup := used_pages (Qr := fun (r8 : Int32) (h7 : xb_H) => xb_ext h1 h7 → xb_k h7 sl = 102 ∧ vp_in (x6 + x7) (xb_n h7 sl) ∧ ∀ h11 : xb_H, h11 = xb_I h7 sl (Int32.toNatClampNeg (x6 + x7)) r8 → ∃ b12 : Nat, (xb_r h11 (ad 14) 5) = some b12 ∧ xb_k h11 b12 = 2 ∧ w_Row_addMany b12 8192 0 h11 bc1 bs1 (fun (h14 : xb_H) (bc15 bs15 : Nat) => xb_ext h11 h14 → w_World_grow_L82 Qr (m + 1) (ad 14) ma x2 x6 (x7 + 1) h14 bc15 bs15)) r1 (np := np + k) (by rw [a25]; exact g2) (by omega) (fun r8' e8' _ => ⟨ks1, by rw [z_in, e67, ns1]; omega, fun h11 e11 => ?_⟩)
        · rw [a14] at hup
          exact ⟨km1, sl, by rw [r6]; exact rsl, by rw [r4.k (c := 6) k14], hup⟩
        · rw [c67] at e11
          have s1 : sl ≠ ad 25 := nsl 25 (by omega)
          have hB1 : cB own1 ad1 h11 := by rw [e11]; exact r1
          have hg1 : bg ad1 h11 rc rs bc1 bs1 := by rw [e11]; exact g5
          have hrow : xr_row h11 (ad1 25) 1 (8192 * (np + k)) (ad1 26) := by
            rw [a25]
            exact g2.fr (by rw [e11]; exact xh_smI _ _ _ s1.symm) (by rw [e11]; exact fun a _ => ⟨rfl, rfl⟩)
          have i11 : xb_i h11 sl = va_up (xb_i h1 sl) (pc + k) r8' := by rw [e11, xh_iI, if_pos rfl]
          have r145 := hB1.r (14, 5, 25) (by decide)
          rw [show ((14, 5, 25) : Nat × Nat × Nat).1 = 14 from rfl, a14] at r145
          refine ⟨ad1 25, r145, hB1.k 25 (by omega), wr_many (r := 25) (k := 8192) (by decide) hB1 hrow rfl (by show _ ≤ 131072; omega) hg1 (fun h14 q bc' bs' w1 w2 w3 w4 w5 w6 w7 w8 _ => ?_)⟩
          have z11 : ∀ a, xb_k h a ≠ 0 → xb_k h11 a ≠ 0 := fun a ha => by rw [e11]; exact ext_nz r4 ha
          have slz : xb_k h11 sl ≠ 0 := by rw [e11]; show xb_k h1 sl ≠ 0; omega
          have maz : xb_k h11 ma ≠ 0 := by rw [e11]; show xb_k h1 ma ≠ 0; omega
          have sl26 : sl ≠ ad1 26 := fun e9 => by
            have := r1.o 26 (by omega)
            rw [← e9, r3 sl (by omega), os] at this
            omega
          have ma26 : ma ≠ ad1 26 := fun e9 => by
            have := r1.o 26 (by omega)
            rw [← e9, r3 ma (by omega), om] at this
            omega
          have ssl := w6 sl slz (by rw [a25]; exact s1) sl26
          have sma := w6 ma maz (by rw [a25]; exact nma 25 (by omega)) ma26
          have e71 : (x7 + 1).toInt = (k + 1 : Nat) := z_inc e7 (by omega)
          refine ih (x7 + 1) (k + 1) h14 _ (va_up ad1 26 q) bc' bs' e71 (by omega) (by omega) ⟨w1, fun j hj => by rw [xh_up, if_neg hj]; exact r2 j hj, fun a ha => by rw [rown_old (z11 a ha)]; exact r3 a ha, r4.tr (fun a ha => by have := w7 a (by rw [e11]; exact ha); rw [e11] at this; exact this), fun a ha c1 c2 c3 c4 => ?_, ⟨?_, ?_, fun j hj => ?_⟩, ?_⟩ ?_ (fun j hj => ?_) (fun j h8 h9 => ?_) ⟨fun j h8 h9 => ?_, fun j h8 => ?_, fun j h8 h9 => ?_⟩ w8
          · have c26 : a ≠ ad1 26 := by
              rcases r9 with e9 | e9
              · rw [e9]; exact c2
              · exact fun e' => ha (e' ▸ e9)
            refine ((r5 a ha c1 c2 c3 c4).tr ?_).tr (w6 a (z11 a ha) (by rw [a25]; exact c1) c26)
            rw [e11]
            exact xh_smI _ _ _ c4
          · rw [sma.2.2, e11]; exact r6
          · rw [sma.2.1, e11]; exact r7
          · rw [sma.1, e11, xh_iI, if_neg hms']; exact r8 j hj
          · rw [xh_up, if_pos rfl]
            rcases w5 with e9 | e9
            · rw [e9]; exact r9
            · rw [e11] at e9
              exact .inr (ext_z r4 e9)
          · rw [xh_up, if_pos rfl, ← a25]
            have : 8192 * (np + k) + 8192 = 8192 * (np + (k + 1)) := by omega
            rw [← this]
            exact w2
          · rw [ssl.1, i11, xh_up, if_neg (by omega)]
            exact g3 j hj
          · rw [ssl.1, i11, xh_up]
            split
            · rw [e8']
              omega
            · exact g4 j h8 (by omega)
          · rw [ssl.1, i11, xh_up]
            split
            · rw [e8']
              omega
            · exact g6.1 j h8 (by omega)
          · rw [xh_up, if_pos rfl, w3 j (by omega), e11, xh_lI]
            exact g6.2.1 j h8
          · rw [xh_up, if_pos rfl]
            by_cases h7 : j < 8192 * (np + k)
            · rw [w3 j h7, e11, xh_lI]
              exact g6.2.2 j h8 h7
            · exact w4 j (by omega) (by omega)
  have L21 : ∀ y0 : Int64, 0 ≤ y0.toInt → y0.toInt ≤ 65536 → ((xb_l h ma 1).toInt ≠ -1 → y0 = xb_l h ma 1) → (y0.toInt < (pc : Int) + x2.toInt → Qr (-1) h bc bs) → w_World_grow_L21 Qr (ad 14) ma x2 y0 h bc bs := by
    intro y0 hy1 hy2 hy4 hy3
    unfold w_World_grow_L21 w_World_grow_L50
    refine ⟨km, fun e => hy3 ?_, fun e => ⟨k14, used_pages hB hR hnp (fun r5 e5 _ => ⟨fun e2 v7 e7 => ?_, fun e2 => hQ2 (.inl ?_)⟩)⟩⟩
    · rw [Z_lt, Z_add, Z_of32, hpc] at e
      omega
    rotate_left
    · rw [Z_le, Z_add, Z_of32, e5] at e2
      simp only [Int64.reduceToInt] at e2
      omega
    have e9 : (r5.toInt64 + x2).toInt = (np : Int) + x2.toInt := by rw [Z_add, Z_of32, e5]; omega
    rw [Z_le, e9] at e2
    simp only [Int64.reduceToInt] at e2
    obtain ⟨more, hmore⟩ : ∃ m : Nat, x2.toInt = m := ⟨x2.toInt.toNat, by omega⟩
    have ex : (Int64.toInt32 x2).toInt = more := z_l2i hmore (by omega)
    have e8 : (Int64.toInt32 x2 * 8192).toInt = (8192 * more : Nat) := by
      have e0 : (8192 : Int32).toInt = 8192 := rfl
      rw [z_mul, ex, e0]
      omega
    have e10 : (xb_i h (ad 25) 1 + Int64.toInt32 x2 * 8192).toInt = (8192 * (np + more) : Nat) := by
      rw [z_add, hR.2.2.1, e8]
      omega
    refine ⟨ad 25, hB.r (14, 5, 25) (by decide), ad 25, hB.r (14, 5, 25) (by decide), hR.1, hR.1, wr_room (r := 25) (by decide) hB hR e10 (by show _ ≤ 131072; omega) hg (fun h12 q bc' bs' w1 w2 w3 w4 w5 w6 w7 w8 w9 _ => ⟨more + 1, ?_⟩)⟩
    have mz : xb_k h ma ≠ 0 := by omega
    have sz : xb_k h sl ≠ 0 := by omega
    have sma := w7 ma mz (nma 25 (by omega))
    have ssl := w7 sl sz (nsl 25 (by omega))
    have hms2 : (xb_l h ma 1).toInt ≠ -1 → ((pc + more : Nat) : Int) ≤ (xb_l h ma 1).toInt := fun h9 => by
      rw [← hy4 h9]
      rw [Z_lt, Z_add, Z_of32, hpc, hmore] at e
      omega
    refine loop more v7 hmore (by omega) (by rw [e7]; exact hpc) hms2 more 0 0 h12 _ (va_up ad 26 q) bc' bs' rfl (by omega) (by omega) ⟨w1, fun j hj => by rw [xh_up, if_neg hj], fun a ha => rown_old ha, w8, fun a ha c1 c2 c3 c4 => w7 a ha c1, ⟨sma.2.2, sma.2.1, fun j _ => by rw [sma.1]⟩, by rw [xh_up, if_pos rfl]; exact w5⟩ (by rw [xh_up, if_pos rfl]; exact w2) (fun j _ => by rw [ssl.1]) (fun j h1 h2 => by omega) ⟨fun j h1 h2 => by omega, fun j h1 => by rw [xh_up, if_pos rfl]; exact w4 j (Nat.lt_of_lt_of_le h1 hR.2.2.2.2.2.1), fun j h1 h2 => by omega⟩ w9
  unfold w_World_grow
  refine ⟨km, fun e => ?_, fun e0 => L21 65536 (by decide) (by decide) (fun h9 => absurd (by rw [e0]; rfl) h9) (fun e => hQ2 (.inr (.inr ?_)))⟩
  · rcases hms with h9 | h9
    · exact absurd (Z_eq.mpr h9) e
    · exact L21 _ h9.1 h9.2 (fun _ => rfl) (fun e9 => hQ2 (.inr (.inl ⟨by omega, e9⟩)))
  · exact e
end W7
