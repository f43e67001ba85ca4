-- the class from outside: the tape
theorem z_by (x : Int32) : -128 ≤ (vp_nar .byte x).toInt ∧ (vp_nar .byte x).toInt ≤ 127 := by
  rw [vp_nar_byte, Int8.toInt_toInt32]
  have h1 := x.toInt8.le_toInt
  have h2 := x.toInt8.toInt_lt
  omega
/-- a byte with its sign -/
def sb8 (n : Nat) : Int := ((n : Int) + 128) % 256 - 128
/-- the bytes of a number, the highest first -/
def fdB (x : Int32) (j : Nat) : Int := sb8 (x.toBitVec.toNat / 2 ^ (24 - 8 * j))
/-- twenty bytes, from five numbers -/
def fdF (x1 x2 x3 x4 x5 : Int32) (j : Nat) : Int := if j < 4 then fdB x1 j else if j < 8 then fdB x2 (j - 4) else if j < 12 then fdB x3 (j - 8) else if j < 16 then fdB x4 (j - 12) else fdB x5 (j - 16)
theorem z_nar (z : Int32) : (vp_nar .byte ((Int32.toInt8 z).toInt32)).toInt = sb8 z.toBitVec.toNat := by
  rw [vp_nar_byte, Int8.toInt_toInt32]
  have e1 : ((Int32.toInt8 z).toInt32.toInt8) = Int32.toInt8 z := by simp
  rw [e1]
  have e2 : (Int32.toInt8 z).toInt = z.toInt.bmod 256 := Int32.toInt_toInt8 z
  rw [e2]
  have e3 := z_nat z
  unfold sb8
  rw [Int.bmod_def]
  omega
theorem z_ushrN {x y : Int32} {k : Nat} (hy : y.toInt = k) (hk : k < 32) : (xb_ushr x y).toBitVec.toNat = x.toBitVec.toNat / 2 ^ k := by
  have e0 : y.toUInt32.toNat = k := by
    have := z_nat y
    show y.toBitVec.toNat = k
    omega
  have e1 : (y.toUInt32 &&& Int32.toUInt32 31).toNat = k := by
    rw [UInt32.toNat_and, e0]
    have : (Int32.toUInt32 31).toNat = 2 ^ 5 - 1 := rfl
    rw [this, Nat.and_two_pow_sub_one_eq_mod]
    omega
  show (x.toUInt32 >>> (y.toUInt32 &&& Int32.toUInt32 31)).toNat = _
  rw [UInt32.toNat_shiftRight, e1, Nat.mod_eq_of_lt hk, Nat.shiftRight_eq_div_pow]
  rfl
section HO4
variable {own own' own2 ad ad' : Nat → Nat} {h h' h2 : xb_H} {W W' : wD} {σ ts ts' K rc rs bc bs bc' bs' : Nat}
theorem bg.sp3 {rc rs bc bs c s : Nat} (hg : bg ad h (rc + c) (rs + s) bc bs) (e : ∀ r ∈ rwl, ad' (r + 1) = ad (r + 1) ∧ xb_n h' (ad (r + 1)) = xb_n h (ad (r + 1))) : c ≤ bc ∧ s ≤ bs ∧ bg ad' h' rc rs (bc - c) (bs - s) := by
  obtain ⟨g1, g2⟩ := hg
  have e0 : ∀ r ∈ rwl, rP h' ad' r = rP h ad r := fun r hr => by
    unfold rP
    rw [(e r hr).1, (e r hr).2]
  have e1 : s9 (rP h' ad') = s9 (rP h ad) := by
    unfold s9
    rw [e0 _ (by decide), e0 _ (by decide), e0 _ (by decide), e0 _ (by decide), e0 _ (by decide), e0 _ (by decide), e0 _ (by decide), e0 _ (by decide), e0 _ (by decide)]
  have e2 : s9 (fun r => rP h' ad' r / 8) = s9 (fun r => rP h ad r / 8) := by
    unfold s9
    dsimp only
    rw [e0 _ (by decide), e0 _ (by decide), e0 _ (by decide), e0 _ (by decide), e0 _ (by decide), e0 _ (by decide), e0 _ (by decide), e0 _ (by decide), e0 _ (by decide)]
  unfold bg
  rw [e1, e2]
  omega
/-- a row of bytes comes in the place of another -/
theorem stp.rep {p k c q n : Nat} {f : Nat → Int32} (hB : cB own ad h) (zq : xb_k h q = 0) (hk : kdl c = 100) (hc : c ∈ itl) (hp : p < 41) (hc41 : c < 41) (hpc : p ≠ c) (hu : ∀ e ∈ cRl, e.1 ≠ c ∧ (e.2.2 = c → e = (p, k, c)) ∧ (e.1 = p → e.2.1 = k → e = (p, k, c))) (h' : xb_H) (e' : h' = xb_P (xb_Ia (xb_new h q 100 n) q f) (ad p) k (some q)) :
    stp [p, c] [] own ad (nown own q (c + 2)) (va_up ad c q) h h' ∧ xb_i h' q = f ∧ xb_n h' q = n ∧ (∀ a, a ≠ q → xb_i h' a = xb_i h a) ∧ (∀ a, a ≠ q → xb_l h' a = xb_l h a) ∧ (∀ a, a ≠ q → xb_n h' a = xb_n h a) := by
  have nq : ∀ k, k < 41 → ad k ≠ q := fun k hk e9 => hB.z k hk (e9 ▸ zq)
  have k10 : ∀ a, xb_k h' a = if a = q then 100 else xb_k h a := fun a => by rw [e', xh_kP, xh_kIa, xh_kN]
  have n10 : ∀ a, xb_n h' a = if a = q then n else xb_n h a := fun a => by rw [e', xh_nP, xh_nIa, xh_nN]
  have i10 : ∀ a, a ≠ q → xb_i h' a = xb_i h a := fun a h9 => by rw [e', xh_iP, xh_iIa, if_neg h9, xh_iN, if_neg h9]
  have l10 : ∀ a, a ≠ q → xb_l h' a = xb_l h a := fun a h9 => by rw [e', xh_lP, xh_lIa, xh_lN, if_neg h9]
  have iq : xb_i h' q = f := by rw [e', xh_iP, xh_iIa, if_pos rfl]
  have r10 : ∀ a, a ≠ q → a ≠ ad p → xb_r h' a = xb_r h a := fun a h9 h8 => by rw [e', xh_rP, if_neg h8, xh_rIa, xh_rN, if_neg h9]
  have rp : xb_r h' (ad p) = va_up (xb_r h (ad p)) k (some q) := by rw [e', xh_rP, if_pos rfl, xh_rIa, xh_rN, if_neg (nq p hp)]
  have ext : xb_ext h h' := fun a h9 => by
    have hne : a ≠ q := fun e9 => h9 (e9 ▸ zq)
    rw [k10, n10, if_neg hne, if_neg hne]
    exact ⟨rfl, rfl⟩
  have hB' : cB (nown own q (c + 2)) (va_up ad c q) h' := by
    refine ⟨fun j hj => ?_, fun e9 he => ?_⟩
    · rw [xh_up]
      split
      · rename_i e9
        rw [e9, nown_eq, k10, if_pos rfl, hk]
        exact ⟨rfl, rfl⟩
      · rw [nown_ne (nq j hj), k10, if_neg (nq j hj)]
        exact hB.1 j hj
    · obtain ⟨x1, x2, x3⟩ := hu e9 he
      obtain ⟨y1, y2⟩ := cRl_lt e9 he
      rw [xh_up, if_neg x1]
      by_cases h8 : e9 = (p, k, c)
      · rw [h8]
        show xb_r h' (ad p) k = some (va_up ad c q c)
        rw [rp, xh_up, if_pos rfl, xh_up, if_pos rfl]
      · rw [xh_up, if_neg (fun e8 => h8 (x2 e8))]
        by_cases h7 : e9.1 = p
        · rw [h7, rp, xh_up, if_neg (fun e8 => h8 (x3 h7 e8)), ← h7]
          exact hB.r e9 he
        · rw [r10 _ (nq _ y1) (hB.ne y1 hp h7)]
          exact hB.r e9 he
  refine ⟨⟨hB', fun j hj => ?_, fun a ha => nown_ne (fun e9 => ha (e9 ▸ zq)), ext, fun a ha _ hC => ?_, fun j => ?_, fun j hj => ?_⟩, iq, by rw [n10, if_pos rfl], i10, l10, fun a h9 => by rw [n10, if_neg h9]⟩
  · rw [xh_up, if_neg (fun e9 => hj (by rw [e9]; simp))]
  · have hne : a ≠ q := fun e9 => ha (e9 ▸ zq)
    exact ⟨i10 a hne, l10 a hne, r10 a hne (hC p (by simp))⟩
  · rw [xh_up]
    split
    · exact .inr zq
    · exact .inl rfl
  · rw [xh_up, if_neg (fun e9 => hj (by rw [e9]; exact hc))]
theorem ho_feedNumber {t : Nat} {x1 : Int32} {Qr : xb_H → Prop} (hB : cB own ad h) (ht : (xb_i h (ad 0) 1).toInt = t) (hn : t + 4 ≤ xb_n h (ad 1)) (hn2 : xb_n h (ad 1) ≤ 65536) (hb : ∀ j, -128 ≤ (xb_i h (ad 1) j).toInt ∧ (xb_i h (ad 1) j).toInt ≤ 127)
    (hQ : ∀ h' : xb_H, stp [0, 1] [] own ad own ad h h' → (xb_i h' (ad 0) 1).toInt = (t + 4 : Nat) → (∀ j, j ≠ 1 → xb_i h' (ad 0) j = xb_i h (ad 0) j) → (∀ j, -128 ≤ (xb_i h' (ad 1) j).toInt ∧ (xb_i h' (ad 1) j).toInt ≤ 127) → (∀ j, j < t → xb_i h' (ad 1) j = xb_i h (ad 1) j) → (∀ j, j < 4 → (xb_i h' (ad 1) (t + j)).toInt = fdB x1 j) → Qr h') : w_H_feedNumber (ad 0) x1 h Qr := by
  have n01 : ad 0 ≠ ad 1 := hB.ne (by omega) (by omega) (by omega)
  have key : ∀ (m : Nat) (x2 : Int32) (h1 : xb_H), m ≤ 4 → x2.toInt = 8 * (m : Int) - 8 → stp [0, 1] [] own ad own ad h h1 → (xb_i h1 (ad 0) 1).toInt = (t + 4 - m : Nat) → (∀ j, j ≠ 1 → xb_i h1 (ad 0) j = xb_i h (ad 0) j) → (∀ j, -128 ≤ (xb_i h1 (ad 1) j).toInt ∧ (xb_i h1 (ad 1) j).toInt ≤ 127) → (∀ j, j < t → xb_i h1 (ad 1) j = xb_i h (ad 1) j) → (∀ j, j + m < 4 → (xb_i h1 (ad 1) (t + j)).toInt = fdB x1 j) → w_H_feedNumber_L3 Qr (m + 1) (ad 0) x1 x2 h1 := by
    intro m
    induction m with
    | zero =>
      intro x2 h1 hm e2 s e1 e3 e4 e5 e8
      unfold w_H_feedNumber_L3
      refine ⟨fun _ => hQ h1 s (by omega) e3 e4 e5 (fun j hj => e8 j (by omega)), fun e => ?_⟩
      rw [z_lt, e2, show (0 : Int32).toInt = 0 from rfl] at e
      omega
    | succ m ih =>
      intro x2 h1 hm e2 s e1 e3 e4 e5 e8
      unfold w_H_feedNumber_L3
      refine ⟨fun e => ?_, fun _ => ⟨s.1.k 0 (by omega), ad 1, s.1.r (0, 0, 1) (by decide), s.1.k 1 (by omega), ?_, fun h6 e6 h7 e7 => ?_⟩⟩
      · rw [z_lt, e2, show (0 : Int32).toInt = 0 from rfl] at e
        omega
      · rw [z_in, e1, (s.2.2.2.1 _ (hB.z 1 (by omega))).2]
        omega
      · have s6 : stp [1] [] own ad own ad h1 h6 := by rw [e6]; exact stp.Ic s.1
        have s7 : stp [0] [] own ad own ad h6 h7 := by rw [e7]; exact stp.Ic s6.1
        have i60 : xb_i h6 (ad 0) = xb_i h1 (ad 0) := by rw [e6, xh_iI, if_neg n01]
        have i71 : xb_i h7 (ad 1) = xb_i h6 (ad 1) := by rw [e7, xh_iI, if_neg n01.symm]
        refine ih (x2 + -8) h7 (by omega) ?_ ((s.tr (s6.tr s7)).mono (by decide) (fun k hk => by simpa using hk)) ?_ (fun j hj => ?_) (fun j => ?_) (fun j hj => ?_) (fun j hj => ?_)
        · rw [z_add, e2, show (-8 : Int32).toInt = -8 from rfl]
          omega
        · rw [e7, xh_iI, if_pos rfl, xh_up, if_pos rfl, i60, z_add, e1, show (1 : Int32).toInt = 1 from rfl]
          omega
        · rw [e7, xh_iI, if_pos rfl, xh_up, if_neg hj, i60]
          exact e3 j hj
        · rw [i71, e6, xh_iI, if_pos rfl, xh_up]
          split
          · exact z_by _
          · exact e4 j
        · rw [i71, e6, xh_iI, if_pos rfl, xh_up, if_neg ?_]
          · exact e5 j hj
          · rw [z_cl, e1]
            omega
        · rw [i71, e6, xh_iI, if_pos rfl, xh_up]
          have hcl : (xb_i h1 (ad 0) 1).toNatClampNeg = t + (3 - m) := by
            rw [z_cl, e1]
            omega
          rw [hcl]
          split
          · have ej : j = 3 - m := by omega
            rw [z_nar, z_ushrN (k := 8 * m) (by omega) (by omega), ej]
            unfold fdB
            rw [show 24 - 8 * (3 - m) = 8 * m by omega]
          · exact e8 j (by omega)
  unfold w_H_feedNumber
  exact ⟨5, key 4 24 h (Nat.le_refl _) rfl ((stp.rf hB).mono (by decide) (fun k hk => hk)) (by rw [ht]; omega) (fun _ _ => rfl) hb (fun _ _ => rfl) (fun j hj => by omega)⟩
theorem tP_up {n n' t : Nat} (h1 : n < t) (h2 : n' = min 65536 (2 * t)) (h3 : 20 ≤ n) (h4 : t ≤ 65536) : n' + tP n' ≤ tP n ∧ 1 + tP n' / 8 ≤ tP n / 8 := by
  unfold tP
  have h5 : ¬ n = 65536 := by omega
  rw [if_neg h5]
  split <;> omega
theorem ho_feed {x1 x2 x3 x4 x5 : Int32} {Qr : Int32 → xb_H → Nat → Nat → Prop} {Qt : String → xb_H → Nat → Nat → Prop} (hI : cI own ad h W σ ts (K + 1)) (hg : cG ad h W ts (K + 1) rc rs bc bs) (hQ : ts ≤ 65516 → ∀ (r : Int32) (h' : xb_H) (own' ad' : Nat → Nat) (bc' bs' : Nat), r.toInt = (ts + 20 : Nat) → stp [0, 1] [] own ad own' ad' h h' → (∀ j, j ≠ 1 → xb_i h' (ad 0) j = xb_i h (ad 0) j) → (∀ j, j < ts → xb_i h' (ad' 1) j = xb_i h (ad 1) j) → (∀ j, j < 20 → (xb_i h' (ad' 1) (ts + j)).toInt = fdF x1 x2 x3 x4 x5 j) → cI own' ad' h' W σ (ts + 20) K → cG ad' h' W (ts + 20) K rc rs bc' bs' → Qr r h' bc' bs') (hQt : 65516 < ts → Qt "java/lang/IllegalStateException" h (bc - 1) (bs - 6)) : w_H_feed (ad 0) x1 x2 x3 x4 x5 h bc bs Qr Qt := by
  obtain ⟨⟨hB, hW, hS, hr, hf⟩, ⟨t1, t2, t3, t4, t5⟩, ⟨m1, mc, m2, m3, m4⟩, ⟨r1, r2, r3⟩, ⟨na, a1, a2⟩, n1, n2, n3, n4⟩ := id hI
  -- the end, with room for 20 bytes
  have L59 : ts ≤ 65516 → ∀ (own1 ad1 : Nat → Nat) (h1 : xb_H) (bc1 bs1 : Nat), stp [0, 1] [] own ad own1 ad1 h h1 → (∀ j, xb_i h1 (ad 0) j = xb_i h (ad 0) j) → ts + 20 ≤ xb_n h1 (ad1 1) → xb_n h1 (ad1 1) ≤ 65536 → (∀ j, -128 ≤ (xb_i h1 (ad1 1) j).toInt ∧ (xb_i h1 (ad1 1) j).toInt ≤ 127) → (∀ j, j < ts → xb_i h1 (ad1 1) j = xb_i h (ad 1) j) → bgv ad1 h1 (rc + (tP (xb_n h1 (ad1 1)) / 8 + nP (xb_n h (ad 31)) / 8 + 12 * ts + 245 * (K + 1) + 6 * (25 - wic W))) (rs + (tP (xb_n h1 (ad1 1)) + nP (xb_n h (ad 31)) + 99 * ts + 3020 * (K + 1) + 19000 * (25 - wic W))) bc1 bs1 → w_H_feed_L59 Qr Qt (ad 0) x1 x2 x3 x4 x5 h1 bc1 bs1 := by
    intro hts own1 ad1 h1 bc1 bs1 s1 i1 j1 j2 j3 j5 j4
    have a0 : ad1 0 = ad 0 := s1.2.2.2.2.2.2 0 (by decide)
    unfold w_H_feed_L59
    rw [← a0]
    refine ⟨s1.1.k 0 (by omega), ho_feedNumber s1.1 (t := ts) (by rw [a0, i1]; exact t1) (by omega) j2 j3 (fun h2 s2 b1 b2 b3 b4 b5 _ => ?_)⟩
    have nn : ∀ {hx : xb_H}, stp [0, 1] [] own1 ad1 own1 ad1 h1 hx → xb_n hx (ad1 1) = xb_n h1 (ad1 1) := fun sx => (sx.2.2.2.1 _ (s1.1.z 1 (by omega))).2
    have tt : ∀ {hx hy : xb_H}, stp [0, 1] [] own1 ad1 own1 ad1 h1 hx → stp [0, 1] [] own1 ad1 own1 ad1 hx hy → stp [0, 1] [] own1 ad1 own1 ad1 h1 hy := fun sx sy => (sx.tr sy).mono (by decide) (fun k hk => by simpa using hk)
    refine ho_feedNumber s2.1 b1 (by rw [nn s2]; omega) (by rw [nn s2]; exact j2) b3 (fun h3 s3 c1 c2 c3 c4 c5 _ => ?_)
    have s3' := tt s2 s3
    refine ho_feedNumber s3.1 c1 (by rw [nn s3']; omega) (by rw [nn s3']; exact j2) c3 (fun h4 s4 d1 d2 d3 d4 d5 _ => ?_)
    have s4' := tt s3' s4
    refine ho_feedNumber s4.1 d1 (by rw [nn s4']; omega) (by rw [nn s4']; exact j2) d3 (fun h5 s5 e1 e2 e3 e4 e5 _ => ?_)
    have s5' := tt s4' s5
    refine ho_feedNumber s5.1 e1 (by rw [nn s5']; omega) (by rw [nn s5']; exact j2) e3 (fun h6 s6 f1 f2 f3 f4 f5 _ => ?_)
    have s6' := tt s5' s6
    have sA : stp [0, 1] [] own ad own1 ad1 h h6 := (s1.tr s6').mono (by decide) (fun k hk => by simpa using hk)
    have cm : ∀ k, k < 41 → k ≠ 0 → k ≠ 1 → ad1 k = ad k ∧ xh_sm h h6 (ad k) := fun k hk h1 h2 => sA.cm hB (by decide) (fun x hx => by cases hx) hk (by simp; omega)
    have n6 : ∀ k, k < 41 → k ≠ 0 → k ≠ 1 → xb_n h6 (ad1 k) = xb_n h (ad k) := fun k hk h1 h2 => by rw [(cm k hk h1 h2).1]; exact (sA.2.2.2.1 _ (hB.z k hk)).2
    have i03 : xb_i h6 (ad 0) 3 = xb_i h (ad 0) 3 := by
      rw [← a0, f2 3 (by omega), e2 3 (by omega), d2 3 (by omega), c2 3 (by omega), b2 3 (by omega), a0]
      exact i1 3
    have n61 := nn s6'
    have i0A : ∀ j, j ≠ 1 → xb_i h6 (ad 0) j = xb_i h (ad 0) j := fun j hj => by
      rw [← a0, f2 j hj, e2 j hj, d2 j hj, c2 j hj, b2 j hj, a0]
      exact i1 j
    have tA : ∀ j, j < ts → xb_i h6 (ad1 1) j = xb_i h (ad 1) j := fun j hj => by
      rw [f4 j (by omega), e4 j (by omega), d4 j (by omega), c4 j (by omega), b4 j hj]
      exact j5 j hj
    have tB : ∀ j, j < 20 → (xb_i h6 (ad1 1) (ts + j)).toInt = fdF x1 x2 x3 x4 x5 j := fun j hj => by
      unfold fdF
      split
      · rw [f4 _ (by omega), e4 _ (by omega), d4 _ (by omega), c4 _ (by omega)]
        exact b5 j (by omega)
      · split
        · rw [f4 _ (by omega), e4 _ (by omega), d4 _ (by omega), show ts + j = ts + 4 + (j - 4) by omega]
          exact c5 _ (by omega)
        · split
          · rw [f4 _ (by omega), e4 _ (by omega), show ts + j = ts + 4 + 4 + (j - 8) by omega]
            exact d5 _ (by omega)
          · split
            · rw [f4 _ (by omega), show ts + j = ts + 4 + 4 + 4 + (j - 12) by omega]
              exact e5 _ (by omega)
            · rw [show ts + j = ts + 4 + 4 + 4 + 4 + (j - 16) by omega]
              exact f5 _ (by omega)
    rw [a0]
    rw [a0] at f1
    refine hQ hts _ h6 own1 ad1 bc1 bs1 f1 sA i0A tA tB ⟨⟨sA.1, hW.st hB sA (by decide), hS.st' hB sA (by decide), hr.st hB sA (by decide), hf.st hB sA (by decide) (fun x hx => by cases hx) (by decide) (by decide)⟩, ⟨by rw [a0]; exact f1, by rw [n61]; omega, by rw [n61]; omega, by rw [n61]; exact j2, f3⟩, ⟨by rw [n6 2 (by omega) (by omega) (by omega)]; exact m1, mc, by rw [a0, i03]; exact m2, m3, fun i hi => ?_⟩, ⟨by rw [n6 4 (by omega) (by omega) (by omega)]; exact r1, by rw [n6 6 (by omega) (by omega) (by omega)]; exact r2, fun k hk => by rw [n6 (k + 7) (by omega) (by omega) (by omega)]; exact r3 k hk⟩, ⟨na, ?_, a2⟩, ?_, ?_, by rw [n6 31 (by omega) (by omega) (by omega)]; exact n3, by rw [n6 31 (by omega) (by omega) (by omega)]; exact n4⟩ ?_
    · obtain ⟨md, d, y1, y2⟩ := m4 i hi
      exact ⟨md, d, by rw [(cm 2 (by omega) (by omega) (by omega)).1, (cm 2 (by omega) (by omega) (by omega)).2.2.2]; exact y1, y2.fr (fun a h1 h2 => sA.n1 hB (by decide) h1 (by simp) h2 (by omega)) sA.2.2.2.1 (fun a h1 h2 => by rw [sA.2.2.1 a h1]; exact h2)⟩
    · rw [(cm 16 (by omega) (by omega) (by omega)).1, (cm 17 (by omega) (by omega) (by omega)).1]
      exact a1.fr (cm 16 (by omega) (by omega) (by omega)).2 sA.2.2.2.1
    · rw [(cm 29 (by omega) (by omega) (by omega)).1, (cm 29 (by omega) (by omega) (by omega)).2.1]
      omega
    · rw [(cm 14 (by omega) (by omega) (by omega)).1, (cm 14 (by omega) (by omega) (by omega)).2.1]
      omega
    · have g6 := j4.st s1.1 s6'
      obtain ⟨g1, g2⟩ := g6
      unfold cG bgv bg xC xS
      rw [n61, n6 31 (by omega) (by omega) (by omega)]
      omega
  have k1 : xb_k h (ad 1) = 100 := hB.k 1 (by omega)
  have hnI := z_nI (n := xb_n h (ad 1)) (by omega)
  unfold w_H_feed
  refine ⟨hB.k 0 (by omega), fun e => ⟨ad 1, hB.r (0, 0, 1) (by decide), k1, fun e2 => ?_, fun e2 => ⟨ad 1, hB.r (0, 0, 1) (by decide), ?_⟩⟩, fun e => ho_ex hg (hQt (by rw [z_le, t1, show (65516 : Int32).toInt = 65516 from rfl] at e; omega))⟩
  · rw [z_le, t1, show (65516 : Int32).toInt = 65516 from rfl] at e
    have e20 : (xb_i h (ad 0) 1 + 20).toInt = (ts + 20 : Nat) := by
      rw [z_add, t1, show (20 : Int32).toInt = 20 from rfl]
      omega
    rw [z_le, e20, hnI] at e2
    exact L59 (by omega) own ad h bc bs ((stp.rf hB).mono (by decide) (fun k hk => hk)) (fun _ => rfl) (by omega) t4 t5 (fun _ _ => rfl) hg
  · rw [z_le, t1, show (65516 : Int32).toInt = 65516 from rfl] at e
    have e20 : (xb_i h (ad 0) 1 + 20).toInt = (ts + 20 : Nat) := by
      rw [z_add, t1, show (20 : Int32).toInt = 20 from rfl]
      omega
    rw [z_le, e20, hnI] at e2
    have e40 : (2 * (xb_i h (ad 0) 1 + 20)).toInt = (2 * (ts + 20) : Nat) := by
      rw [z_mul, e20, show (2 : Int32).toInt = 2 from rfl]
      omega
    obtain ⟨y, hy⟩ : ∃ y : Int32, y = (if 2 * (xb_i h (ad 0) 1 + 20) < 65536 then 2 * (xb_i h (ad 0) 1 + 20) else 65536) := ⟨_, rfl⟩
    obtain ⟨n', hn'⟩ : ∃ n', n' = min 65536 (2 * (ts + 20)) := ⟨_, rfl⟩
    have ey : y.toInt = n' := by
      rw [hy]
      split
      · rename_i h9
        rw [z_lt, e40, show (65536 : Int32).toInt = 65536 from rfl] at h9
        rw [e40]
        omega
      · rename_i h9
        rw [z_lt, e40, show (65536 : Int32).toInt = 65536 from rfl] at h9
        rw [show (65536 : Int32).toInt = 65536 from rfl]
        omega
    rw [← hy]
    obtain ⟨v1, v2⟩ := tP_up (n := xb_n h (ad 1)) (n' := n') (t := ts + 20) (by omega) hn' t3 (by omega)
    have hgu : bg ad h (rc + xC ad h W ts (K + 1) + vP (xb_n h (ad 37)) / 8) (rs + xS ad h W ts (K + 1) + vP (xb_n h (ad 37))) bc bs := hg
    have hg1 : 1 ≤ bc ∧ n' ≤ bs := by
      obtain ⟨g1, g2⟩ := hgu
      unfold xC at g1
      unfold xS at g2
      omega
    refine sp_copyOf0b k1 (by omega) (by omega) (by omega) hg1.1 (by omega) (fun q zq f g1 g2 _ h9 e9 => ?_)
    rw [ey, Int.toNat_natCast] at e9 ⊢
    obtain ⟨s9, i9, nq9, io9, lo9, no9⟩ := stp.rep (p := 0) (k := 0) (c := 1) hB zq rfl (by decide) (by omega) (by omega) (by omega) (by decide) h9 e9
    have nq : ∀ k, k < 41 → ad k ≠ q := fun k hk e9 => hB.z k hk (e9 ▸ zq)
    have u1 : va_up ad 1 q 1 = q := by rw [xh_up, if_pos rfl]
    have uk : ∀ k, k ≠ 1 → va_up ad 1 q k = ad k := fun k hk => by rw [xh_up, if_neg hk]
    refine L59 (by omega) _ _ h9 (bc - 1) (bs - n') s9 (fun j => by rw [io9 _ (nq 0 (by omega))]) (by rw [u1, nq9]; omega) (by rw [u1, nq9]; omega) (fun j => ?_) (fun j hj => by rw [u1, i9]; exact g1 j (by omega) (by omega)) ?_
    · rw [u1, i9]
      exact g2 (fun z => -128 ≤ z.toInt ∧ z.toInt ≤ 127) (by decide) t5 j
    · have hsp := hgu.le (rc' := rc + (tP n' / 8 + nP (xb_n h (ad 31)) / 8 + 12 * ts + 245 * (K + 1) + 6 * (25 - wic W)) + vP (xb_n h (ad 37)) / 8 + 1) (rs' := rs + (tP n' + nP (xb_n h (ad 31)) + 99 * ts + 3020 * (K + 1) + 19000 * (25 - wic W)) + vP (xb_n h (ad 37)) + n') (by unfold xC; omega) (by unfold xS; omega)
      unfold bgv
      rw [u1, nq9, uk 37 (by omega), no9 _ (nq 37 (by omega))]
      exact (hsp.sp3 (fun r hr => by
        have h8 : ∀ r ∈ rwl, r + 1 < 41 ∧ r + 1 ≠ 1 := by decide
        obtain ⟨h1, h2⟩ := h8 r hr
        exact ⟨uk _ h2, no9 _ (nq _ h1)⟩)).2.2
end HO4
