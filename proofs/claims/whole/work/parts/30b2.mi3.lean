-- the reference: names, find, invoke
section MI3
variable {own : Nat → Nat} {mm m i ip k f t : Nat} {A : Nat → Nat} {h h' h2 : xb_H} {F F' F2 : Nat → Nat → Int32} {v v' v2 : Nat → Int32} {D : zM} {DM : Nat → zM} {len rl K : Nat} {Qr : Int32 → xb_H → Prop}
section
variable {φ φ' : Nat → Nat → Int32} {ν ν' : Nat → Int32}
theorem W4.nm (h4 : W4 φ ν DM) (hg : Gr φ ν DM φ' ν' DM) (h3 : W3 φ ν DM) (hk : ∀ k, k ∈ [44, 45, 48, 49, 51, 54, 56, 59] → φ' k = φ k) (hv : ∀ k, k ∈ [30, 43, 46, 47, 52, 53, 58] → ν' k = ν k) (hN : ∀ k, k < vN ν' 42 → ∃ nf ns no : Nat, (φ' 39 k).toInt = nf ∧ (φ' 40 k).toInt = ns ∧ (φ' 41 k).toInt = no ∧ nf + ns ≤ vN ν' 4 ∧ no < vN ν' 30) : W4 φ' ν' DM := by
  obtain ⟨a1, a2, a3, a4, a5, a6, a7⟩ := h4
  have e : ∀ k, k ∈ [30, 43, 46, 47, 52, 53, 58] → vN ν' k = vN ν k := fun k hk => by
    unfold vN
    rw [hv k hk]
  refine ⟨?_, ?_, ?_, ?_, ?_, ?_, hN⟩
  · rw [e 30 (by decide), e 43 (by decide), hk 44 (by decide), hk 45 (by decide)]
    intro f hf
    obtain ⟨i, b, e1, e2, e3, e4⟩ := a1 f hf
    exact ⟨i, b, e1, e2, e3, by rw [hg.im e3]; exact e4⟩
  · rw [e 46 (by decide), e 47 (by decide), hk 48 (by decide), hk 49 (by decide)]
    exact a2
  · rw [hk 51 (by decide)]
    exact fun j hj => (a3 j hj).imp id (fun ⟨f, e1, e2⟩ => ⟨f, e1, e2.mo hg⟩)
  · rw [e 52 (by decide), e 53 (by decide), hk 54 (by decide)]
    exact a4
  · rw [hk 56 (by decide)]
    exact a5
  · rw [e 58 (by decide), hk 59 (by decide)]
    exact a6
/-- what is stored has grown, perhaps a name more -/
theorem RX.nm (h : RX φ ν len DM) (h43 : vN ν 43 ≤ 8192) (ha : ∀ j, j < vN ν 4 → φ' 3 j = φ 3 j) (hk : ∀ k, k ∈ aRI → k ≠ 3 → k ≠ 39 → k ≠ 40 → k ≠ 41 → φ' k = φ k) (hv : ∀ k, k ∈ vRX → k ≠ 4 → k ≠ 42 → ν' k = ν k) (hs : vN ν 4 ≤ vN ν' 4) (hN : ∀ k, k < vN ν' 42 → ∃ nf ns no : Nat, (φ' 39 k).toInt = nf ∧ (φ' 40 k).toInt = ns ∧ (φ' 41 k).toInt = no ∧ nf + ns ≤ vN ν' 4 ∧ no < vN ν' 30) : RX φ' ν' len DM := by
  obtain ⟨b2, b3, b4, b5⟩ := h
  have q1 : ∀ k, k ∈ [31, 32, 35, 36, 37, 38] → k ∈ aRI ∧ k ≠ 3 ∧ k ≠ 39 ∧ k ≠ 40 ∧ k ≠ 41 := by decide
  have q2 : ∀ k, k ∈ [5, 30, 34, 43, 46, 52, 58] → k ∈ vRX ∧ k ≠ 4 ∧ k ≠ 42 := by decide
  have hg : Gr φ ν DM φ' ν' DM := by
    refine ⟨fun k hk9 => ?_, fun _ _ => rfl, fun k hk9 i _ => ?_, fun j _ => by rw [hk 33 (by decide) (by decide) (by decide) (by decide) (by decide)], fun f _ => by rw [hk 44 (by decide) (by decide) (by decide) (by decide) (by decide), hk 45 (by decide) (by decide) (by decide) (by decide) (by decide)]; exact ⟨rfl, rfl⟩, fun g _ => by rw [hk 59 (by decide) (by decide) (by decide) (by decide) (by decide)]⟩
    · obtain ⟨c1, c2, c3⟩ := q2 k hk9
      unfold vN
      rw [hv k c1 c2 c3]
      exact Nat.le_refl _
    · obtain ⟨c1, c2, c3, c4, c5⟩ := q1 k hk9
      rw [hk k c1 c2 c3 c4 c5]
  have e5 : vN ν' 5 = vN ν 5 := by
    unfold vN
    rw [hv 5 (by decide) (by decide) (by decide)]
  have e13 : vN ν' 13 = vN ν 13 := by
    unfold vN
    rw [hv 13 (by decide) (by decide) (by decide)]
  have e30 : vN ν' 30 = vN ν 30 := by
    unfold vN
    rw [hv 30 (by decide) (by decide) (by decide)]
  have hK : ∀ k, k ∈ [6, 7, 8, 9, 10, 11, 12] → φ' k = φ k := fun k hk9 => by
    have q : ∀ k, k ∈ [6, 7, 8, 9, 10, 11, 12] → k ∈ aRI ∧ k ≠ 3 ∧ k ≠ 39 ∧ k ≠ 40 ∧ k ≠ 41 := by decide
    obtain ⟨c1, c2, c3, c4, c5⟩ := q k hk9
    exact hk k c1 c2 c3 c4 c5
  refine ⟨fun m hm => ?_, fun i hi => ?_, ?_, ?_⟩
  · rw [e5] at hm
    rw [e13]
    exact b2.ag (en' := vN ν 13) ⟨ha, fun _ _ => by rw [hK 6 (by decide), hK 7 (by decide)]; exact ⟨rfl, rfl⟩, fun _ _ => by rw [hK 8 (by decide), hK 9 (by decide)]; exact ⟨rfl, rfl⟩, fun _ _ => by rw [hK 10 (by decide)], fun _ _ => by rw [hK 11 (by decide), hK 12 (by decide)]; exact ⟨rfl, rfl⟩⟩ (Nat.le_refl _) hs (Nat.le_refl _) hm
  · rw [e30] at hi
    exact (b3 i hi).gr hi hg b3 b4 h43
  · refine b4.nm hg b3 (fun k hk9 => ?_) (fun k hk9 => ?_) hN
    · have q : ∀ k, k ∈ [44, 45, 48, 49, 51, 54, 56, 59] → k ∈ aRI ∧ k ≠ 3 ∧ k ≠ 39 ∧ k ≠ 40 ∧ k ≠ 41 := by decide
      obtain ⟨c1, c2, c3, c4, c5⟩ := q k hk9
      exact hk k c1 c2 c3 c4 c5
    · have q : ∀ k, k ∈ [30, 43, 46, 47, 52, 53, 58] → k ∈ vRX ∧ k ≠ 4 ∧ k ≠ 42 := by decide
      obtain ⟨c1, c2, c3⟩ := q k hk9
      exact hv k c1 c2 c3
  · refine b5.gr hg b3 b4 h43 (fun k hk9 => ?_) (fun k hk9 => ?_)
    · have q : ∀ k, k ∈ runA → k ∈ aRI ∧ k ≠ 3 ∧ k ≠ 39 ∧ k ≠ 40 ∧ k ≠ 41 := by decide
      obtain ⟨c1, c2, c3, c4, c5⟩ := q k hk9
      exact hk k c1 c2 c3 c4 c5
    · have q : ∀ k, k ∈ [62, 63, 64, 68, 76, 81, 93] → k ∈ vRX ∧ k ≠ 4 ∧ k ≠ 42 := by decide
      obtain ⟨c1, c2, c3⟩ := q k hk9
      exact hv k c1 c2 c3
end
/-- an export of a module that is named so -/
def rxS (D : zM) (u : Nat → Int32) (o n k : Nat) : Prop := cV (qc D) (qp D 7 k) = n ∧ ∀ t, t < n → qc D (cE (qc D) (qp D 7 k) + t) = u (o + t)
/-- the first export of a module that is named so, or none -/
def rxN (D : zM) (u : Nat → Int32) (o n : Nat) (r : Int32) : Prop := (r = -1 ∧ ∀ j, j < qt D 7 → ¬ rxS D u o n j) ∨ (∃ k : Nat, r.toInt = k ∧ k < qt D 7 ∧ rxS D u o n k ∧ ∀ j, j < k → ¬ rxS D u o n j)
/-- names are compared -/
theorem m_isNamed {x1 x2 x3 x4 : Int32} {p q o n : Nat} (hX : mX own mm A h F m D) (hz : v 17 = 0) (h1 : x1.toInt = m) (h2 : x2.toInt = p) (hp : qb D ≤ p) (hN : rN (qc D) p q) (hq : q ≤ qe D) (h3 : x3.toInt = o) (h4 : x4.toInt = n) (ho : o + n ≤ 16384) (hQ : ∀ (v' : Nat → Int32) (r : Int32), vg v v' → v' 17 = 0 → (r = 0 ∧ ¬ (cV (qc D) p = n ∧ ∀ t, t < n → qc D (cE (qc D) p + t) = F (A 3) (o + t))) ∨ (r = 1 ∧ (cV (qc D) p = n ∧ ∀ t, t < n → qc D (cE (qc D) p + t) = F (A 3) (o + t))) → Qr r (mH h F mm v')) : w_M_isNamed mm x1 x2 x3 x4 (mH h F mm v) Qr := by
  have hB := hX.1
  obtain ⟨a1, a2, a3, a4⟩ := hB.kx (k := 3) (kd := 100) (n := 16384) (by decide) (by decide)
  obtain ⟨p1, nn, c1, c2, c3⟩ := id hN
  have rb := rC_b c1
  obtain ⟨b1, b2, b3⟩ := rN_b hN c1
  have hE := hX.2.2.2.2.1
  have ecE : cE (qc D) p = p1 := by
    unfold cE
    rw [c1]
  have ecV : cV (qc D) p = nn.toInt.toNat := by
    unfold cV
    rw [c1]
  have e3 : ∀ t, t < nn.toInt.toNat → F (A 3) (p1 + t) = qc D (p1 + t) := fun t ht => hX.2.1.2.2.2.1 _ (by omega) (by omega)
  have key : ∀ (u : Nat → Int32), vg v u → u 17 = 0 → (u 15).toInt = p1 → ∀ (nf k : Nat) (x5 x6 : Int32), n - k ≤ nf → x6.toInt = k → k ≤ n → ((x5 = 0 ∧ ¬ (cV (qc D) p = n ∧ ∀ t, t < n → qc D (cE (qc D) p + t) = F (A 3) (o + t))) ∨ (x5 = 1 ∧ nn.toInt.toNat = n ∧ ∀ t, t < k → qc D (cE (qc D) p + t) = F (A 3) (o + t))) → w_M_isNamed_L26 Qr (nf + 1) mm x3 x4 x5 x6 (mH h F mm u) := by
    intro u gu zu u15
    have fin : ∀ x5 : Int32, ((x5 = 0 ∧ ¬ (cV (qc D) p = n ∧ ∀ t, t < n → qc D (cE (qc D) p + t) = F (A 3) (o + t))) ∨ (x5 = 1 ∧ (cV (qc D) p = n ∧ ∀ t, t < n → qc D (cE (qc D) p + t) = F (A 3) (o + t)))) → w_M_isNamed_L75 Qr x5 (mH h F mm u) := fun x5 hx5 => by
      unfold w_M_isNamed_L75
      exact ⟨hx5.imp And.left (fun h => h.1), hQ u x5 gu zu hx5⟩
    have full : ∀ (k : Nat) (x5 : Int32), k = n → ((x5 = 0 ∧ ¬ (cV (qc D) p = n ∧ ∀ t, t < n → qc D (cE (qc D) p + t) = F (A 3) (o + t))) ∨ (x5 = 1 ∧ nn.toInt.toNat = n ∧ ∀ t, t < k → qc D (cE (qc D) p + t) = F (A 3) (o + t))) → ((x5 = 0 ∧ ¬ (cV (qc D) p = n ∧ ∀ t, t < n → qc D (cE (qc D) p + t) = F (A 3) (o + t))) ∨ (x5 = 1 ∧ (cV (qc D) p = n ∧ ∀ t, t < n → qc D (cE (qc D) p + t) = F (A 3) (o + t)))) := fun k x5 hk h9 => h9.imp id (fun ⟨a, b, c⟩ => ⟨a, by rw [ecV]; exact b, by rw [hk] at c; exact c⟩)
    intro nf
    induction nf with
    | zero =>
      intro k x5 x6 hn hx hk hx5
      unfold w_M_isNamed_L26
      refine ⟨fun _ => fin x5 (full k x5 (by omega) hx5), fun hle => ?_⟩
      rw [z_le, h4, hx] at hle
      omega
    | succ nf ih =>
      intro k x5 x6 hn hx hk hx5
      unfold w_M_isNamed_L26
      refine ⟨fun hle => fin x5 (full k x5 (by rw [z_le, h4, hx] at hle; omega) hx5), fun hle => ⟨fun h0 => fin x5 (hx5.elim .inl (fun h => absurd (h0.symm.trans h.1) (by decide))), fun hn0 => ?_⟩⟩
      rw [z_le, h4, hx] at hle
      rcases hx5 with ⟨e, -⟩ | ⟨e, e2, e4⟩
      · exact absurd e hn0
      · have d1 : (u 15 + x6).toInt = (p1 + k : Nat) := z_ad2 u15 hx (by omega) (by omega)
        have d2 : (x3 + x6).toInt = (o + k : Nat) := z_ad2 h3 hx (by omega) (by omega)
        rw [mH_i]
        have f1 : xb_i (mH h F mm u) (A 3) (Int32.toNatClampNeg (u 15 + x6)) = qc D (p1 + k) := by
          rw [mH_o a4, z_cl, d1, Int.toNat_natCast]
          exact e3 k (by omega)
        have f2 : xb_i (mH h F mm u) (A 3) (Int32.toNatClampNeg (x3 + x6)) = F (A 3) (o + k) := by rw [mH_o a4, z_cl, d2, Int.toNat_natCast]
        refine ⟨hB.2.1, A 3, a1, a2, ?_, A 3, a1, a2, ?_, fun hne => ?_, fun heq => ?_⟩
        · rw [z_in, d1]
          show _ ∧ _ < ((xb_n h (A 3) : Nat) : Int)
          omega
        · rw [z_in, d2]
          show _ ∧ _ < ((xb_n h (A 3) : Nat) : Int)
          omega
        · unfold w_M_isNamed_L67
          exact ih (k + 1) 0 (x6 + 1) (by omega) (z_inc hx (by omega)) (by omega) (.inl ⟨rfl, fun hS => hne (by rw [f1, f2, ← ecE]; exact hS.2 k (by omega))⟩)
        · unfold w_M_isNamed_L67
          refine ih (k + 1) 1 (x6 + 1) (by omega) (z_inc hx (by omega)) (by omega) (.inr ⟨rfl, e2, fun t ht => ?_⟩)
          rcases Nat.lt_or_ge t k with h9 | h9
          · exact e4 t h9
          · rw [show t = k by omega, ecE, ← f1, heq, f2]
  unfold w_M_isNamed w_M_isNamed_L21
  refine ⟨hB.2.1, m_go_k hX hz h1 h2 hp (by omega) (fun v1 k1 _ => m_count_k hX.rd k1.2.2.1 k1.2.2.2 c1 (by omega) (fun v2 o2 z2 _ => ⟨fun hne => ⟨n + 1, key v2 (k1.1.tr o2.vg) z2 o2.2.1 n 0 0 0 (by omega) rfl (by omega) (.inl ⟨rfl, fun hS => hne (z_eq.mpr (by rw [h4, z_of64]; have := hS.1; omega))⟩)⟩, fun he => ⟨n + 1, key v2 (k1.1.tr o2.vg) z2 o2.2.1 n 0 1 0 (by omega) rfl (by omega) (.inr ⟨rfl, ?_, fun t ht => absurd ht (Nat.not_lt_zero t)⟩)⟩⟩))⟩
  have e9 : (Int64.toInt32 nn).toInt = n := by rw [he]; exact h4
  rw [z_of64] at e9
  omega
theorem m_exportNamed {x1 x2 x3 : Int32} {o n : Nat} (hX : mX own mm A h F m D) (hz : v 17 = 0) (h1 : x1.toInt = i) (hi : i < 24) (hm : (F (A 31) i).toInt = m) (h2 : x2.toInt = o) (h3 : x3.toInt = n) (ho : o + n ≤ 16384) (hQ : ∀ (v' : Nat → Int32) (r : Int32), vg v v' → v' 17 = 0 → rxN D (F (A 3)) o n r → Qr r (mH h F mm v')) : w_M_exportNamed mm x1 x2 x3 (mH h F mm v) Qr := by
  have hB := hX.1
  obtain ⟨a1, a2, a3, a4⟩ := hB.kx (k := 31) (kd := 102) (n := 24) (by decide) (by decide)
  have b7' := (hX.2.2.2.2.2.1 7 (by decide)).1
  have key : ∀ v5 : Int32, v5.toInt = m → ∀ (nf k : Nat) (x5 : Int32) (u : Nat → Int32), qt D 7 - k ≤ nf → x5.toInt = k → k ≤ qt D 7 → vg v u → u 17 = 0 → (∀ j, j < k → ¬ rxS D (F (A 3)) o n j) → w_M_exportNamed_L11 Qr (nf + 1) mm x2 x3 v5 x5 (mH h F mm u) := by
    intro v5 e5 nf
    induction nf with
    | zero =>
      intro k x5 u hn hx hk gu zu hno
      unfold w_M_exportNamed_L11
      refine ⟨hB.2.1, m_manyOf hX e5 (s := 7) rfl (by decide) (fun r hr _ => ⟨fun hle => hQ u _ gu zu (.inl ⟨rfl, fun j hj => hno j (by rw [z_le, hr, hx] at hle; omega)⟩), fun hle => ?_⟩)⟩
      rw [z_le, hr, hx] at hle
      omega
    | succ nf ih =>
      intro k x5 u hn hx hk gu zu hno
      unfold w_M_exportNamed_L11
      refine ⟨hB.2.1, m_manyOf hX e5 (s := 7) rfl (by decide) (fun r hr _ => ⟨fun hle => hQ u _ gu zu (.inl ⟨rfl, fun j hj => hno j (by rw [z_le, hr, hx] at hle; omega)⟩), fun hle => ?_⟩)⟩
      rw [z_le, hr, hx] at hle
      have hk7 : k < qt D 7 := by omega
      obtain ⟨q, x, y1, y2, y3, y4, y5, y6, y7⟩ := hX.2.2.x7 hk7
      have rb := rC_b y3
      refine m_placeOf hX e5 (s := 7) rfl (by decide) hx hk7 (fun r6 e6 _ => m_isNamed hX zu e5 e6 y5 y1 (by omega) h2 h3 ho (fun v7 r8 g7 z7 hr8 _ => ⟨fun h0 => ih (k + 1) (x5 + 1) v7 (by omega) (z_inc hx (by omega)) (by omega) (gu.tr g7) z7 (fun j hj => ?_), fun hn0 => hQ v7 x5 (gu.tr g7) z7 (.inr ⟨k, hx, hk7, ?_, hno⟩)⟩))
      · rcases Nat.lt_or_ge j k with h9 | h9
        · exact hno j h9
        · rw [show j = k by omega]
          rcases hr8 with ⟨-, h8⟩ | ⟨h8, -⟩
          · exact h8
          · rw [h8] at h0
            exact absurd h0 (by decide)
      · rcases hr8 with ⟨h8, -⟩ | ⟨-, h8⟩
        · exact absurd h8 hn0
        · exact h8
  unfold w_M_exportNamed
  refine ⟨hB.2.1, A 31, a1, a2, ?_, fun v5 e5 => ⟨qt D 7 + 1, ?_⟩⟩
  · rw [z_in, h1]
    show _ ∧ _ < ((xb_n h (A 31) : Nat) : Int)
    omega
  · rw [mH_o a4, z_cl, h1, Int.toNat_natCast] at e5
    exact key v5 (by rw [e5]; exact hm) (qt D 7) 0 0 v (by omega) rfl (by omega) vg.rf hz (fun j hj => absurd hj (Nat.not_lt_zero j))
/-- the tape was kept, or thrown away -/
theorem rA.kp {w : Nat → Int32} {st2 : Nat} (hA : rA own mm A h F v DM len rl (K + 1)) (hw : ∀ j, j < vN v 4 → w j = F (A 3) j) (hv : ∀ k, k ≠ 0 → k ≠ 2 → k ≠ 4 → v' k = v k) (h2 : v' 2 = 0) (h4 : (v' 4).toInt = st2) (hs : vN v 4 ≤ st2) (hs2 : st2 ≤ vN v 4 + vN v 2) : rA own mm A h (va_up F (A 3) w) v' DM len rl K := by
  have hB := hA.B
  obtain ⟨w1, w2, w3, w4, w5, w6, w7, w8⟩ := hA.W1
  have n43 := (hA.n (k := 43) (b := 8192) (by decide)).2
  have ev : ∀ k, k ≠ 0 → k ≠ 2 → k ≠ 4 → vN v' k = vN v k := fun k k1 k2 k3 => by
    unfold vN
    rw [hv k k1 k2 k3]
  have fa : ∀ k, (∃ e ∈ aL, e.1 = k) → k ≠ 3 → va_up F (A 3) w (A k) = F (A k) := fun k hk h9 => by rw [xh_up, if_neg (hB.ne hk (by decide) h9)]
  refine hA.dn.ch (f0.aw (by rw [hB.o (by decide)]; omega)) (fa 90 (by decide) (by decide)) (fun a ha => by rw [xh_up, if_neg (fun e => by rw [e, hB.o (by decide)] at ha; omega)]) (hA.s (hv 34 (by decide) (by decide) (by decide)) (hv 13 (by decide) (by decide) (by decide))) ⟨⟨fun x hx => ?_, ?_, ?_, ?_, ?_, ?_, ?_, ?_⟩, hA.I.2.nm n43 (fun j hj => ?_) (fun k hk c1 _ _ _ => fa k ((by decide : ∀ k, k ∈ aRI → ∃ e ∈ aL, e.1 = k) k hk) c1) (fun k hk c1 c2 => ?_) (by rw [vN_of h4]; exact hs) (fun k hk => ?_)⟩
  · have q1 : ∀ x ∈ wB, x.1 = 2 → x.2 = 10240 := by decide
    have q2 : ∀ x ∈ wB, x.1 = 4 → x.2 = 10240 := by decide
    have q3 : ∀ x ∈ wB, x.1 ≠ 0 := by decide
    by_cases c1 : x.1 = 2
    · rw [c1, h2, q1 x hx c1]
      decide
    · by_cases c2 : x.1 = 4
      · rw [c2, h4, q2 x hx c2]
        omega
      · rw [hv x.1 (q3 x hx) c1 c2]
        exact w1 x hx
  · rw [hv 17 (by decide) (by decide) (by decide), hv 84 (by decide) (by decide) (by decide), hv 94 (by decide) (by decide) (by decide)]; exact w2
  · rw [vN_of h4, vN_of (n := 0) (by rw [h2]; rfl)]
    omega
  · rw [ev 42 (by decide) (by decide) (by decide)]
    omega
  · rw [ev 13 (by decide) (by decide) (by decide), vN_of h4]
    omega
  · rw [ev 46 (by decide) (by decide) (by decide), ev 30 (by decide) (by decide) (by decide)]; exact w6
  · rw [ev 52 (by decide) (by decide) (by decide), ev 30 (by decide) (by decide) (by decide)]; exact w7
  · rw [ev 34 (by decide) (by decide) (by decide), ev 30 (by decide) (by decide) (by decide)]; exact w8
  · show va_up F (A 3) w (A 3) j = F (A 3) j
    rw [xh_up, if_pos rfl]
    exact hw j hj
  · have q : ∀ k, k ∈ vRX → k ≠ 0 ∧ k ≠ 2 := by decide
    exact hv k (q k hk).1 (q k hk).2 c1
  · rw [ev 42 (by decide) (by decide) (by decide)] at hk
    obtain ⟨nf, ns, no, e1, e2, e3, e4, e5⟩ := hA.w4.2.2.2.2.2.2 k hk
    refine ⟨nf, ns, no, ?_, ?_, ?_, ?_, ?_⟩
    · show (va_up F (A 3) w (A 39) k).toInt = nf
      rw [fa 39 (by decide) (by decide)]; exact e1
    · show (va_up F (A 3) w (A 40) k).toInt = ns
      rw [fa 40 (by decide) (by decide)]; exact e2
    · show (va_up F (A 3) w (A 41) k).toInt = no
      rw [fa 41 (by decide) (by decide)]; exact e3
    · rw [vN_of h4]
      omega
    · rw [ev 30 (by decide) (by decide) (by decide)]; exact e5
theorem rQq.elim9 {rc rs bc bs : Nat} {Q : xb_H → Nat → Nat → Prop} (hQ : rQq own mm h F rc rs K Q) (hg : rG len rl rc rs (K + 1) bc bs) (h' : xb_H) (F' : Nat → Nat → Int32) (v' : Nat → Int32) (hf : f0 own h F h' F') (hA : rA own mm A h' F' v' DM len rl K) : Q (mH h' F' mm v') bc bs := hQ own A h' F' v' DM len rl bc bs hf.z hA hg.dn
theorem r_find {x1 : Int32} {rc rs bc bs : Nat} {Qb : Int32 → xb_H → Nat → Nat → Prop} (hA : rA own mm A h F v DM len rl (K + 1)) (hg : rG len rl rc rs (K + 1) bc bs) (hQ0 : ∀ (i m : Nat) (r : Int32) (w : Nat → Int32), x1.toInt = i → i < vN v 30 → (F (A 31) i).toInt = m → m < vN v 5 → (∀ j, j < vN v 4 → w j = F (A 3) j) → (∀ j, j < vN v 2 → w (vN v 4 + j) = vp_nar .byte (F (A 1) j)) → rxN (DM m) w (vN v 4) (vN v 2) r → ∀ u : Nat → Int32, (∀ j, j ∉ [0, 2, 14, 15, 16, 17, 18] → u j = v j) → u 0 = 0 → u 2 = 0 → u 17 = 0 → f0 own h F h (va_up F (A 3) w) → rA own mm A h (va_up F (A 3) w) u DM len rl K → Qb r (mH h (va_up F (A 3) w) mm u) bc bs) (hQ1 : byd (vN v 30) x1 → rA own mm A h F (va_up v 0 1) DM len rl K → Qb 0 (mH h F mm (va_up v 0 1)) bc bs) : w_M_find mm x1 (mH h F mm v) bc bs Qb := by
  have hB := hA.B
  obtain ⟨n4, n4'⟩ := hA.n (k := 4) (b := 10240) (by decide)
  obtain ⟨n2, n2'⟩ := hA.n (k := 2) (b := 10240) (by decide)
  have n30 := (hA.n (k := 30) (b := 24) (by decide)).2
  have w3 := hA.W1.2.2.1
  have L14 : ∀ y0 : Int32, (y0 = 0 ∧ ∃ i : Nat, x1.toInt = i ∧ i < vN v 30) ∨ (y0 = 1 ∧ byd (vN v 30) x1) → w_M_find_L14 Qb mm x1 y0 mm (mH h F mm v) bc bs := by
    intro y0 hy
    unfold w_M_find_L14
    refine ⟨hB.2.1, fun h2 e2 => ?_⟩
    rw [mH_I] at e2
    subst e2
    have A0 : rA own mm A h F (va_up v 0 y0) DM len rl K := hA.dn.u (by decide)
    rw [mH_i, xh_up, if_pos rfl, xh_up, if_neg (by decide)]
    rcases hy with ⟨ey, i, y1, y2⟩ | ⟨ey, hy1⟩
    rotate_left
    · subst ey
      exact ⟨hB.2.1, fun h9 => absurd h9 (by decide), fun _ => hQ1 hy1 A0⟩
    subst ey
    refine ⟨hB.2.1, fun hle v5 e5 => ?_, fun h9 => absurd (by decide) h9⟩
    refine m_keepTapeE (st := vN v 4) (ts := vN v 2) hB (by rw [xh_up, if_neg (by decide)]; exact n4) (by rw [xh_up, if_neg (by decide)]; exact n2) (by omega) (fun w kw1 kw2 _ h8 e8 => ?_)
    rw [mH_I] at e8
    subst e8
    obtain ⟨u, hu⟩ : ∃ u, u = va_up (va_up (va_up (va_up v 0 0) 4 (va_up v 0 0 4 + va_up v 0 0 2)) 2 0) 4 (va_up v 0 0 4) := ⟨_, rfl⟩
    rw [← hu]
    have uo : ∀ k, k ≠ 0 → k ≠ 2 → k ≠ 4 → u k = v k := fun k k0 k2 k4 => by rw [hu, xh_up, if_neg k4, xh_up, if_neg k2, xh_up, if_neg k4, xh_up, if_neg k0]
    have A1 : rA own mm A h (va_up F (A 3) w) u DM len rl K := hA.kp (st2 := vN v 4) kw1 uo (by rw [hu, xh_up, if_neg (by decide), xh_up, if_pos rfl]) (by rw [hu, xh_up, if_pos rfl, xh_up, if_neg (by decide)]; exact n4) (Nat.le_refl _) (by omega)
    obtain ⟨m, m1, m2⟩ := hA.mo y2
    have hX1 := A1.X (m := m) (by unfold vN at *; rw [uo 5 (by decide) (by decide) (by decide)]; exact m2)
    have e31 : va_up F (A 3) w (A 31) = F (A 31) := by rw [xh_up, if_neg (hB.ne (by decide) (by decide) (by decide))]
    refine m_exportNamed (o := vN v 4) (n := vN v 2) hX1 A1.z y1 (by omega) (by rw [e31]; exact m1) (by rw [xh_up, if_neg (by decide)]; exact n4) (by rw [e5]; exact n2) (by omega) (fun v' r g1 g2 hr _ => ?_)
    have e3w : va_up F (A 3) w (A 3) = w := by rw [xh_up, if_pos rfl]
    rw [e3w] at hr
    have u4 : u 4 = v 4 := by rw [hu, xh_up, if_pos rfl, xh_up, if_neg (by decide)]
    have u2 : u 2 = 0 := by rw [hu, xh_up, if_neg (by decide), xh_up, if_pos rfl]
    have u0 : u 0 = 0 := by rw [hu, xh_up, if_neg (by decide), xh_up, if_neg (by decide), xh_up, if_neg (by decide), xh_up, if_pos rfl]
    refine hQ0 i m r w y1 y2 m1 m2 kw1 (fun j hj => ?_) hr v' (fun j hj => ?_) (by rw [g1 0 (by decide) (by decide) (by decide) (by decide) (by decide)]; exact u0) (by rw [g1 2 (by decide) (by decide) (by decide) (by decide) (by decide)]; exact u2) g2 (f0.aw (by rw [hB.o (by decide)]; omega)) (A1.vg g1 g2)
    · rw [kw2 (vN v 4 + j) (by omega) (by omega), Nat.add_sub_cancel_left]
    · have q : ∀ i, i ∈ [0, 2, 14, 15, 16, 17, 18] → j ≠ i := fun i hi e => hj (e ▸ hi)
      rw [g1 j (q 14 (by decide)) (q 15 (by decide)) (q 16 (by decide)) (q 17 (by decide)) (q 18 (by decide))]
      by_cases h9 : j = 4
      · rw [h9, u4]
      · exact uo j (q 0 (by decide)) (q 2 (by decide)) h9
  unfold w_M_find
  exact ⟨hB.2.1, m_isInstance hA (fun hb _ => ⟨fun _ => L14 1 (.inr ⟨rfl, hb⟩), fun h9 => absurd rfl h9⟩) (fun i e1 e2 _ => ⟨fun h9 => absurd h9 (by decide), fun _ => L14 0 (.inl ⟨rfl, i, e1, e2⟩)⟩)⟩
theorem r_name {x1 : Int32} {rc rs bc bs : Nat} {Qb : xb_H → Nat → Nat → Prop} (hA : rA own mm A h F v DM len rl (K + 1)) (hg : rG len rl rc rs (K + 1) bc bs) (hQ0 : ∀ (i : Nat) (G : Nat → Nat → Int32) (w : Nat → Int32), x1.toInt = i → i < vN v 30 → (∀ j, j < vN v 4 → w j = F (A 3) j) → (∀ j, j < vN v 2 → w (vN v 4 + j) = vp_nar .byte (F (A 1) j)) → (∀ a, a ≠ A 39 → a ≠ A 40 → a ≠ A 41 → G a = va_up F (A 3) w a) → G (A 40) = va_up (F (A 40)) (vN v 42) (v 2) → G (A 39) = va_up (F (A 39)) (vN v 42) (v 4) → G (A 41) = va_up (F (A 41)) (vN v 42) x1 → ∀ u : Nat → Int32, (∀ j, j ∉ [0, 2, 4, 42] → u j = v j) → u 0 = 0 → u 2 = 0 → u 4 = v 4 + v 2 → u 42 = v 42 + 1 → f0 own h F h G → rA own mm A h G u DM len rl K → Qb (mH h G mm u) bc bs) (hQ1 : byd (vN v 30) x1 → rA own mm A h F (va_up v 0 1) DM len rl K → Qb (mH h F mm (va_up v 0 1)) bc bs) : w_M_name1 mm x1 (mH h F mm v) bc bs Qb := by
  have hB := hA.B
  obtain ⟨n4, n4'⟩ := hA.n (k := 4) (b := 10240) (by decide)
  obtain ⟨n2, n2'⟩ := hA.n (k := 2) (b := 10240) (by decide)
  obtain ⟨n42, n42'⟩ := hA.n (k := 42) (b := 512) (by decide)
  have n30 := (hA.n (k := 30) (b := 24) (by decide)).2
  have n43 := (hA.n (k := 43) (b := 8192) (by decide)).2
  obtain ⟨w1, w2, w3, w4, w5, w6, w7, w8⟩ := hA.W1
  obtain ⟨a1, a2, a3, a4⟩ := hB.kx (k := 40) (kd := 102) (n := 4100) (by decide) (by decide)
  obtain ⟨b1, b2, b3, b4⟩ := hB.kx (k := 39) (kd := 102) (n := 4100) (by decide) (by decide)
  obtain ⟨c1, c2, c3, c4⟩ := hB.kx (k := 41) (kd := 102) (n := 4100) (by decide) (by decide)
  have L14 : ∀ y0 : Int32, (y0 = 0 ∧ ∃ i : Nat, x1.toInt = i ∧ i < vN v 30) ∨ (y0 = 1 ∧ byd (vN v 30) x1) → w_M_name1_L14 Qb mm x1 y0 mm (mH h F mm v) bc bs := by
    intro y0 hy
    unfold w_M_name1_L14 w_M_name1_L70
    refine ⟨hB.2.1, fun h2 e2 => ?_⟩
    rw [mH_I] at e2
    subst e2
    have A0 : rA own mm A h F (va_up v 0 y0) DM len rl K := hA.dn.u (by decide)
    rw [mH_i, xh_up, if_pos rfl]
    rcases hy with ⟨ey, i, y1, y2⟩ | ⟨ey, hy1⟩
    rotate_left
    · subst ey
      exact ⟨hB.2.1, fun _ => hQ1 hy1 A0, fun h9 => absurd h9 (by decide)⟩
    refine ⟨hB.2.1, fun h9 => absurd ey h9, fun hle => ?_⟩
    have e42 : va_up v 0 y0 42 = v 42 := by rw [xh_up, if_neg (by decide)]
    have c42 : (va_up v 0 y0 42).toNatClampNeg = vN v 42 := by rw [e42, z_cl, n42]; omega
    have in42 : ∀ (hh : xb_H) (a : Nat), xb_n hh a = 4100 → vp_in (va_up v 0 y0 42) (xb_n hh a) := fun hh a ha => by
      rw [z_in, e42, n42, ha]
      omega
    refine ⟨A 40, a1, a2, in42 h _ a3, fun h8 e8 => ?_⟩
    rw [mH_A a4, c42] at e8
    subst e8
    rw [mH_i]
    refine ⟨A 39, b1, m_keepTapeE (st := vN v 4) (ts := vN v 2) hB (by rw [xh_up, if_neg (by decide)]; exact n4) (by rw [xh_up, if_neg (by decide)]; exact n2) (by omega) (fun w kw1 kw2 _ => ⟨b2, in42 h _ b3, fun h14 e14 => ?_⟩)⟩
    rw [mH_A b4, c42] at e14
    subst e14
    obtain ⟨u, hu⟩ : ∃ u, u = va_up (va_up (va_up v 0 y0) 4 (va_up v 0 y0 4 + va_up v 0 y0 2)) 2 0 := ⟨_, rfl⟩
    rw [← hu, mH_i]
    have uo : ∀ k, k ≠ 0 → k ≠ 2 → k ≠ 4 → u k = v k := fun k k0 k2 k4 => by rw [hu, xh_up, if_neg k2, xh_up, if_neg k4, xh_up, if_neg k0]
    have u42 : u 42 = v 42 := uo 42 (by decide) (by decide) (by decide)
    have cu : (u 42).toNatClampNeg = vN v 42 := by rw [u42, z_cl, n42]; omega
    refine ⟨A 41, c1, c2, by rw [u42, ← e42]; exact in42 h _ c3, fun h18 e18 h19 e19 => ?_⟩
    rw [mH_A c4, cu] at e18
    subst e18
    rw [mH_i, mH_I] at e19
    subst e19
    have n3 : ∀ k, (∃ e ∈ aL, e.1 = k) → ∀ j, (∃ e ∈ aL, e.1 = j) → k ≠ j → A k ≠ A j := fun k hk j hj e => hB.ne hk hj e
    have y03 : va_up F (A 40) (va_up (F (A 40)) (vN v 42) (va_up v 0 y0 2)) (A 3) = F (A 3) := by rw [xh_up, if_neg (n3 3 (by decide) 40 (by decide) (by decide))]
    rw [y03] at kw1
    have y01 : va_up F (A 40) (va_up (F (A 40)) (vN v 42) (va_up v 0 y0 2)) (A 1) = F (A 1) := by rw [xh_up, if_neg (n3 1 (by decide) 40 (by decide) (by decide))]
    rw [y01] at kw2
    have ev0' : va_up v 0 y0 4 = v 4 := by rw [xh_up, if_neg (by decide)]
    have ev2' : va_up v 0 y0 2 = v 2 := by rw [xh_up, if_neg (by decide)]
    have ev0 : va_up v 0 y0 4 = v 4 := by rw [xh_up, if_neg (by decide)]
    have ev2 : va_up v 0 y0 2 = v 2 := by rw [xh_up, if_neg (by decide)]
    rw [ev2] at *
    rw [ev0] at *
    have h4u : (u 4).toInt = (vN v 4 + vN v 2 : Nat) := by
      rw [hu, xh_up, if_neg (by decide), xh_up, if_pos rfl]
      exact z_ad2 n4 n2 (by omega) (by omega)
    have A1 := hA.kp (v' := u) (st2 := vN v 4 + vN v 2) kw1 uo (by rw [hu, xh_up, if_pos rfl]) h4u (by omega) (Nat.le_refl _)
    -- the names
    obtain ⟨G, hG⟩ : ∃ G, G = va_up (va_up (va_up (va_up F (A 40) (va_up (F (A 40)) (vN v 42) (v 2))) (A 3) w) (A 39) (va_up (va_up (va_up F (A 40) (va_up (F (A 40)) (vN v 42) (v 2))) (A 3) w (A 39)) (vN v 42) (v 4))) (A 41) (va_up (va_up (va_up (va_up F (A 40) (va_up (F (A 40)) (vN v 42) (v 2))) (A 3) w) (A 39) (va_up (va_up (va_up F (A 40) (va_up (F (A 40)) (vN v 42) (v 2))) (A 3) w (A 39)) (vN v 42) (v 4)) (A 41)) (vN v 42) x1) := ⟨_, rfl⟩
    rw [← hG]
    have n403 := n3 40 (by decide) 3 (by decide) (by decide)
    have n4039 := n3 40 (by decide) 39 (by decide) (by decide)
    have n4041 := n3 40 (by decide) 41 (by decide) (by decide)
    have n393 := n3 39 (by decide) 3 (by decide) (by decide)
    have n3941 := n3 39 (by decide) 41 (by decide) (by decide)
    have n413 := n3 41 (by decide) 3 (by decide) (by decide)
    have Go : ∀ a, a ≠ A 39 → a ≠ A 40 → a ≠ A 41 → G a = va_up F (A 3) w a := fun a c1 c2 c3 => by
      rw [hG, xh_up, if_neg c3, xh_up, if_neg c1, xh_up, xh_up F (A 3)]
      split
      · rfl
      · rw [xh_up, if_neg c2]
    have G40 : G (A 40) = va_up (F (A 40)) (vN v 42) (v 2) := by rw [hG, xh_up, if_neg n4041, xh_up, if_neg n4039, xh_up, if_neg n403, xh_up, if_pos rfl]
    have G39 : G (A 39) = va_up (F (A 39)) (vN v 42) (v 4) := by rw [hG, xh_up, if_neg n3941, xh_up, if_pos rfl, xh_up _ (A 3) w (A 39), if_neg n393, xh_up F (A 40) _ (A 39), if_neg (Ne.symm n4039)]
    have G41 : G (A 41) = va_up (F (A 41)) (vN v 42) x1 := by rw [hG, xh_up, if_pos rfl, xh_up _ (A 39) _ (A 41), if_neg (Ne.symm n3941), xh_up _ (A 3) w (A 41), if_neg n413, xh_up F (A 40) _ (A 41), if_neg (Ne.symm n4041)]
    clear hG
    have q : ∀ k, k ∈ aRI → ∃ e ∈ aL, e.1 = k := by decide
    have e42' : (u 42 + 1).toInt = (vN v 42 + 1 : Nat) := by rw [u42]; exact z_inc n42 (by omega)
    have vu : ∀ k, k ≠ 42 → va_up u 42 (u 42 + 1) k = u k := fun k hk => by rw [xh_up, if_neg hk]
    have v42' : vN (va_up u 42 (u 42 + 1)) 42 = vN v 42 + 1 := vN_of (by rw [xh_up, if_pos rfl]; exact e42')
    have evu : ∀ k, k ≠ 42 → vN (va_up u 42 (u 42 + 1)) k = vN u k := fun k hk => by
      unfold vN
      rw [vu k hk]
    obtain ⟨x1', x2', x3', x4', x5', x6', x7', x8'⟩ := A1.W1
    have hf1 : f0 own h (va_up F (A 3) w) h G := ⟨rfl, rfl, rfl, fun a ha => ⟨rfl, Go a (fun e => by rw [e, hB.o (by decide)] at ha; omega) (fun e => by rw [e, hB.o (by decide)] at ha; omega) (fun e => by rw [e, hB.o (by decide)] at ha; omega)⟩⟩
    have Gk : ∀ k, (∃ e ∈ aL, e.1 = k) → k ≠ 39 → k ≠ 40 → k ≠ 41 → G (A k) = va_up F (A 3) w (A k) := fun k hk d1 d2 d3 => Go _ (n3 k hk 39 (by decide) d1) (n3 k hk 40 (by decide) d2) (n3 k hk 41 (by decide) d3)
    have vu2 : ∀ j, j ∉ [0, 2, 4, 42] → va_up u 42 (u 42 + 1) j = v j := fun j hj => by
      have q : ∀ i, i ∈ [0, 2, 4, 42] → j ≠ i := fun i hi e => hj (e ▸ hi)
      rw [vu j (q 42 (by decide)), uo j (q 0 (by decide)) (q 2 (by decide)) (q 4 (by decide))]
    refine hQ0 i G w y1 y2 kw1 (fun j hj => by rw [kw2 (vN v 4 + j) (by omega) (by omega), Nat.add_sub_cancel_left]) Go G40 G39 G41 _ vu2 (by rw [vu 0 (by decide), hu, xh_up, if_neg (by decide), xh_up, if_neg (by decide), xh_up, if_pos rfl]; exact ey) (by rw [vu 2 (by decide), hu, xh_up, if_pos rfl]) (by rw [vu 4 (by decide), hu, xh_up, if_neg (by decide), xh_up, if_pos rfl, ev0', ev2']) (by rw [xh_up, if_pos rfl, u42]) ((f0.aw (own := own) (a := A 3) (w := w) (by rw [hB.o (by decide)]; omega)).tr hf1) (A1.ch hf1 (Gk 90 (by decide) (by decide) (by decide) (by decide)) (fun a ha => Go a (fun e => by rw [e, hB.o (by decide)] at ha; omega) (fun e => by rw [e, hB.o (by decide)] at ha; omega) (fun e => by rw [e, hB.o (by decide)] at ha; omega)) (A1.s (vu 34 (by decide)) (vu 13 (by decide))) ⟨⟨fun x hx => ?_, ?_, ?_, ?_, ?_, ?_, ?_, ?_⟩, A1.I.2.nm (by unfold vN at *; rw [uo 43 (by decide) (by decide) (by decide)]; exact n43) (fun j hj => ?_) (fun k hk d0 d1 d2 d3 => Gk k (q k hk) d1 d2 d3) (fun k hk _ d2 => vu k d2) (by rw [evu 4 (by decide)]; exact Nat.le_refl _) (fun k hk => ?_)⟩)
    · have q1 : ∀ x ∈ wB, x.1 = 42 → x.2 = 512 := by decide
      by_cases d1 : x.1 = 42
      · rw [d1, xh_up, if_pos rfl, e42', q1 x hx d1]
        omega
      · rw [vu x.1 d1]
        exact x1' x hx
    · rw [vu 17 (by decide), vu 84 (by decide), vu 94 (by decide)]; exact x2'
    · rw [evu 4 (by decide), evu 2 (by decide)]; exact x3'
    · rw [v42']; omega
    · rw [evu 13 (by decide), evu 4 (by decide)]; exact x5'
    · rw [evu 46 (by decide), evu 30 (by decide)]; exact x6'
    · rw [evu 52 (by decide), evu 30 (by decide)]; exact x7'
    · rw [evu 34 (by decide), evu 30 (by decide)]; exact x8'
    · show G (A 3) j = va_up F (A 3) w (A 3) j
      rw [Gk 3 (by decide) (by decide) (by decide) (by decide)]
    · rw [v42'] at hk
      show ∃ nf ns no : Nat, (G (A 39) k).toInt = nf ∧ (G (A 40) k).toInt = ns ∧ (G (A 41) k).toInt = no ∧ _
      rw [G39, G40, G41, evu 4 (by decide), evu 30 (by decide), vN_of h4u]
      have e30 : vN u 30 = vN v 30 := by
        unfold vN
        rw [uo 30 (by decide) (by decide) (by decide)]
      rw [e30]
      by_cases hk9 : k = vN v 42
      · refine ⟨vN v 4, vN v 2, i, ?_, ?_, ?_, by omega, y2⟩
        · rw [xh_up, if_pos hk9]; exact n4
        · rw [xh_up, if_pos hk9]; exact n2
        · rw [xh_up, if_pos hk9]; exact y1
      · obtain ⟨nf, ns, no, z1, z2, z3, z4, z5⟩ := hA.w4.2.2.2.2.2.2 k (by omega)
        refine ⟨nf, ns, no, ?_, ?_, ?_, by omega, z5⟩
        · rw [xh_up, if_neg hk9]; exact z1
        · rw [xh_up, if_neg hk9]; exact z2
        · rw [xh_up, if_neg hk9]; exact z3
  unfold w_M_name1
  exact ⟨hB.2.1, m_isInstance hA (fun hb _ => ⟨fun _ => L14 1 (.inr ⟨rfl, hb⟩), fun h9 => absurd rfl h9⟩) (fun i e1 e2 _ => ⟨fun h9 => absurd h9 (by decide), fun _ => L14 0 (.inl ⟨rfl, i, e1, e2⟩)⟩)⟩
/-- a call is under way that has not begun -/
theorem rA.uw {f n : Nat} (hA : rA own mm A h F v DM len rl K) (hv : ∀ k, k ∉ [0, 62, 63, 64, 66, 93] → v' k = v k) (h63 : v' 63 = 0) (h64 : (v' 64).toInt = f) (hf : fnO v f) (h93 : (v' 93).toInt = n) (hn : n = (fPl (fun k => F (A k)) DM f).length) (hn2 : n ≤ 1000) (h66 : 0 ≤ (v' 66).toInt ∧ (v' 66).toInt ≤ 1000) : rA own mm A h F v' DM len rl K := by
  obtain ⟨w1, w2, w3, w4, w5, w6, w7, w8⟩ := hA.W1
  have ev : ∀ k, k ∉ [0, 62, 63, 64, 66, 93] → vN v' k = vN v k := fun k hk => by
    unfold vN
    rw [hv k hk]
  refine hA.ch f0.rf rfl (fun _ _ => rfl) (hA.s (hv 34 (by decide)) (hv 13 (by decide))) ⟨⟨fun x hx => ?_, ?_, ?_, ?_, ?_, ?_, ?_, ?_⟩, (hA.I.2.Y.cg (fun _ _ => rfl) (fun k hk => hv k ?_)).X (fun _ => ⟨f, h64, ?_, fun _ => ?_, fun h9 => absurd h63 h9⟩)⟩
  · have q1 : ∀ x ∈ wB, x.1 = 66 → x.2 = 1000 := by decide
    have q2 : ∀ x ∈ wB, x.1 = 93 → x.2 = 1000 := by decide
    have q3 : ∀ x ∈ wB, x.1 ≠ 66 → x.1 ≠ 93 → x.1 ∉ [0, 62, 63, 64, 66, 93] := by decide
    by_cases c1 : x.1 = 66
    · rw [c1, q1 x hx c1]
      exact h66
    · by_cases c2 : x.1 = 93
      · rw [c2, q2 x hx c2, h93]
        omega
      · rw [hv x.1 (q3 x hx c1 c2)]
        exact w1 x hx
  · rw [hv 17 (by decide), hv 84 (by decide), hv 94 (by decide)]; exact w2
  · rw [ev 4 (by decide), ev 2 (by decide)]; exact w3
  · rw [ev 42 (by decide)]; exact w4
  · rw [ev 13 (by decide), ev 4 (by decide)]; exact w5
  · rw [ev 46 (by decide), ev 30 (by decide)]; exact w6
  · rw [ev 52 (by decide), ev 30 (by decide)]; exact w7
  · rw [ev 34 (by decide), ev 30 (by decide)]; exact w8
  · have q : ∀ k, k ∈ vRY → k ∉ [0, 62, 63, 64, 66, 93] := by decide
    exact q k hk
  · unfold fnO at *
    rw [ev 43 (by decide)]
    exact hf
  · rw [vN_of h93]
    exact hn
/-- an export is called: it exists -/
def ivR (A : Nat → Nat) (F : Nat → Nat → Int32) (DM : Nat → zM) (v : Nat → Int32) (x1 x2 : Int32) (i k m : Nat) : Prop := x1.toInt = i ∧ i < vN v 30 ∧ x2.toInt = k ∧ (F (A 31) i).toInt = m ∧ m < vN v 5 ∧ k < qt (DM m) 7
theorem r_invoke {x1 x2 : Int32} {Q : xb_H → Prop} (hA : rA own mm A h F v DM len rl (K + 1))
    (hQ0 : ∀ (i k m f : Nat) (h' : xb_H), ivR A F DM v x1 x2 i k m → ub (qc (DM m)) (xko (DM m) k) = 0 → f = mnV A F DM i 0 (xnu (DM m) k) → fnO v f → vN v 66 = (fPl (fun k => F (A k)) DM f).length → v 62 = 0 → (∀ d, d ≠ A 67 → xb_l h' d = xb_l h d) → (∀ j, xb_l h' (A 67) j = if j < vN v 66 then xb_l h (A 65) j else xb_l h (A 67) j) → ∀ u : Nat → Int32, (∀ j, j ∉ [0, 14, 15, 16, 17, 18, 62, 63, 64, 66, 93] → u j = v j) → u 0 = 0 → u 17 = 0 → u 62 = 1 → u 63 = 0 → (u 64).toInt = f → u 66 = 0 → u 93 = v 66 → f0 own h F h' F → rA own mm A h' F u DM len rl K → Q (mH h' F mm u))
    (hQ1 : (byd (vN v 30) x1 ∨ ∃ i m : Nat, x1.toInt = i ∧ i < vN v 30 ∧ (F (A 31) i).toInt = m ∧ m < vN v 5 ∧ byd (qt (DM m) 7) x2) → ∀ u : Nat → Int32, vz v u 1 → rA own mm A h F u DM len rl K → Q (mH h F mm u))
    (hQ2 : ∀ i k m : Nat, ivR A F DM v x1 x2 i k m → (ub (qc (DM m)) (xko (DM m) k) ≠ 0 ∨ (ub (qc (DM m)) (xko (DM m) k) = 0 ∧ vN v 66 ≠ (fPl (fun k => F (A k)) DM (mnV A F DM i 0 (xnu (DM m) k))).length)) → ∀ u : Nat → Int32, vz v u 2 → rA own mm A h F u DM len rl K → Q (mH h F mm u))
    (hQ3 : ∀ i k m : Nat, ivR A F DM v x1 x2 i k m → ub (qc (DM m)) (xko (DM m) k) = 0 → vN v 66 = (fPl (fun k => F (A k)) DM (mnV A F DM i 0 (xnu (DM m) k))).length → v 62 ≠ 0 → ∀ u : Nat → Int32, vz v u 3 → rA own mm A h F u DM len rl K → Q (mH h F mm u)) : w_M_invoke mm x1 x2 (mH h F mm v) Q := by
  have hB := hA.B
  obtain ⟨a1, a2, a3, a4⟩ := hB.kx (k := 31) (kd := 102) (n := 24) (by decide) (by decide)
  obtain ⟨b1, b2, b3, b4⟩ := hB.kx (k := 67) (kd := 103) (n := 1000) (by decide) (by decide)
  obtain ⟨c1, c2, c3, c4⟩ := hB.kx (k := 65) (kd := 103) (n := 1000) (by decide) (by decide)
  have n30 := (hA.n (k := 30) (b := 24) (by decide)).2
  obtain ⟨n66, n66'⟩ := hA.n (k := 66) (b := 1000) (by decide)
  have o67 : 60 ≤ own (A 67) := by rw [hB.o (by decide)]; omega
  -- the end
  have L107 : ∀ (u : Nat → Int32) (y0 x5 : Int32), (∀ k, k ∉ [0, 14, 15, 16, 17, 18] → u k = v k) → u 17 = 0 → ∀ i k m f : Nat, ivR A F DM v x1 x2 i k m → ub (qc (DM m)) (xko (DM m) k) = 0 → f = mnV A F DM i 0 (xnu (DM m) k) → x5.toInt = f → fnO v f → vN v 66 = (fPl (fun k => F (A k)) DM f).length → ((y0 = 0 ∧ v 62 = 0) ∨ (y0 = 3 ∧ v 62 ≠ 0)) → w_M_invoke_L107 Q mm x5 y0 mm (mH h F mm u) := by
    intro u y0 x5 uo zu ii kk mz f iv hub hfm f1 f2 f3 hy
    have Au : rA own mm A h F u DM len rl K := hA.dn.vv (fun k hk => by
      by_cases h9 : k = 17
      · rw [h9, zu, hA.z]
      · have q : ∀ k, k ∈ vRI → k ≠ 17 → k ∉ [0, 14, 15, 16, 17, 18] := by decide
        exact uo k (q k hk h9))
    unfold w_M_invoke_L107
    refine ⟨hB.2.1, fun h2 e2 => ?_⟩
    rw [mH_I] at e2
    subst e2
    have A0 : rA own mm A h F (va_up u 0 y0) DM len rl K := Au.u (by decide)
    rw [mH_i, xh_up, if_pos rfl]
    have uvz : vz v (va_up u 0 y0) y0 := ⟨fun j h0 h1 h2 h3 h4 h5 => by
      rw [xh_up, if_neg h0]
      exact uo j (by simp only [List.mem_cons, List.not_mem_nil, or_false]; omega), by rw [xh_up, if_pos rfl], by rw [xh_up, if_neg (by decide)]; exact zu⟩
    rcases hy with ⟨ey, h62⟩ | ⟨ey, h62⟩
    rotate_left
    · subst ey
      exact ⟨hB.2.1, fun h9 => absurd h9 (by decide), fun _ => hQ3 ii kk mz iv hub (by rw [← hfm]; exact f3) h62 _ uvz A0⟩
    refine ⟨hB.2.1, fun hle => ⟨vN v 66 + 1, ?_⟩, fun h9 => absurd (by rw [ey]; decide) h9⟩
    have u66 : va_up u 0 y0 66 = v 66 := by rw [xh_up, if_neg (by decide)]; exact uo 66 (by decide)
    have key : ∀ (n k : Nat) (x6 : Int32) (hh : xb_H), vN v 66 - k ≤ n → x6.toInt = k → k ≤ vN v 66 → f0 own h F hh F → (∀ d, d ≠ A 67 → xb_l hh d = xb_l h d) → (∀ j, xb_l hh (A 67) j = if j < k then xb_l h (A 65) j else xb_l h (A 67) j) → w_M_invoke_L121 Q (n + 1) mm x5 x6 (mH hh F mm (va_up u 0 y0)) := by
      have out : ∀ hh : xb_H, f0 own h F hh F → (∀ d, d ≠ A 67 → xb_l hh d = xb_l h d) → (∀ j, xb_l hh (A 67) j = if j < vN v 66 then xb_l h (A 65) j else xb_l h (A 67) j) → ∀ h3 : xb_H, h3 = xb_I (mH hh F mm (va_up u 0 y0)) mm 93 (va_up u 0 y0 66) → ∀ h4 : xb_H, h4 = xb_I h3 mm 66 0 → ∀ h5 : xb_H, h5 = xb_I h4 mm 64 x5 → ∀ h6 : xb_H, h6 = xb_I h5 mm 62 1 → ∀ h7 : xb_H, h7 = xb_I h6 mm 63 0 → Q h7 := by
        intro hh hf d1 d2 h3 e3 h4 e4 h5 e5 h6 e6 h7 e7
        rw [mH_I] at e3; subst e3
        rw [mH_I] at e4; subst e4
        rw [mH_I] at e5; subst e5
        rw [mH_I] at e6; subst e6
        rw [mH_I] at e7; subst e7
        have Ah : rA own mm A hh F (va_up u 0 y0) DM len rl K := A0.cg hf rfl (fun _ _ => rfl) (fun _ _ => rfl) (fun _ _ => rfl)
        have W : ∀ j, j ∉ [62, 63, 64, 66, 93] → va_up (va_up (va_up (va_up (va_up (va_up u 0 y0) 93 (va_up u 0 y0 66)) 66 0) 64 x5) 62 1) 63 0 j = va_up u 0 y0 j := fun j hj => by
          have q : ∀ i, i ∈ [62, 63, 64, 66, 93] → j ≠ i := fun i hi e => hj (e ▸ hi)
          rw [xh_up, if_neg (q 63 (by decide)), xh_up, if_neg (q 62 (by decide)), xh_up, if_neg (q 64 (by decide)), xh_up, if_neg (q 66 (by decide)), xh_up, if_neg (q 93 (by decide))]
        refine hQ0 ii kk mz f hh iv hub hfm f2 f3 h62 d1 d2 _ (fun j hj => ?_) (by rw [W 0 (by decide), xh_up, if_pos rfl]; exact ey) (by rw [W 17 (by decide), xh_up, if_neg (by decide)]; exact zu) (by rw [xh_up, if_neg (by decide), xh_up, if_pos rfl]) (by rw [xh_up, if_pos rfl]) (by rw [xh_up, if_neg (by decide), xh_up, if_neg (by decide), xh_up, if_pos rfl]; exact f1) (by rw [xh_up, if_neg (by decide), xh_up, if_neg (by decide), xh_up, if_neg (by decide), xh_up, if_pos rfl]) (by rw [xh_up, if_neg (by decide), xh_up, if_neg (by decide), xh_up, if_neg (by decide), xh_up, if_neg (by decide), xh_up, if_pos rfl, u66]) hf (Ah.uw (f := f) (n := vN v 66) (fun k hk => ?_) ?_ ?_ ?_ ?_ f3 n66' ?_)
        · have q : ∀ i, i ∈ [0, 14, 15, 16, 17, 18, 62, 63, 64, 66, 93] → j ≠ i := fun i hi e => hj (e ▸ hi)
          rw [W j (fun h9 => hj ((by decide : ∀ j, j ∈ [62, 63, 64, 66, 93] → j ∈ [0, 14, 15, 16, 17, 18, 62, 63, 64, 66, 93]) j h9)), xh_up, if_neg (q 0 (by decide))]
          exact uo j (fun h9 => hj ((by decide : ∀ j, j ∈ [0, 14, 15, 16, 17, 18] → j ∈ [0, 14, 15, 16, 17, 18, 62, 63, 64, 66, 93]) j h9))
        · have q : ∀ j, j ∈ [0, 62, 63, 64, 66, 93] → k ≠ j := fun j hj e => hk (e ▸ hj)
          rw [xh_up, if_neg (q 63 (by decide)), xh_up, if_neg (q 62 (by decide)), xh_up, if_neg (q 64 (by decide)), xh_up, if_neg (q 66 (by decide)), xh_up, if_neg (q 93 (by decide))]
        · rw [xh_up, if_pos rfl]
        · rw [xh_up, if_neg (by decide), xh_up, if_neg (by decide), xh_up, if_pos rfl]; exact f1
        · unfold fnO vN at *
          rw [xh_up, if_neg (by decide), uo 43 (by decide)]
          exact f2
        · rw [xh_up, if_neg (by decide), xh_up, if_neg (by decide), xh_up, if_neg (by decide), xh_up, if_neg (by decide), xh_up, if_pos rfl, u66]; exact n66
        · rw [xh_up, if_neg (by decide), xh_up, if_neg (by decide), xh_up, if_neg (by decide), xh_up, if_pos rfl]
          decide
      intro n
      induction n with
      | zero =>
        intro k x6 hh hn hx hk hf d1 d2
        unfold w_M_invoke_L121
        rw [mH_i]
        refine ⟨by show xb_k hh mm = 9; rw [hf.1]; exact hB.2.1, fun _ => out hh hf d1 (by rw [show vN v 66 = k by omega]; exact d2), fun hle => ?_⟩
        rw [z_le, u66, n66, hx] at hle
        omega
      | succ n ih =>
        intro k x6 hh hn hx hk hf d1 d2
        unfold w_M_invoke_L121
        rw [mH_i]
        refine ⟨by show xb_k hh mm = 9; rw [hf.1]; exact hB.2.1, fun hle => out hh hf d1 (by rw [show vN v 66 = k by rw [z_le, u66, n66, hx] at hle; omega]; exact d2), fun hle => ?_⟩
        rw [z_le, u66, n66, hx] at hle
        have n67 : A 65 ≠ A 67 := hB.ne (by decide) (by decide) (by decide)
        refine ⟨A 67, by show xb_r hh mm 67 = some (A 67); rw [hf.2.2.1]; exact b1, A 65, by show xb_r hh mm 65 = some (A 65); rw [hf.2.2.1]; exact c1, by show xb_k hh (A 65) = 103; rw [hf.1]; exact c2, ?_, by show xb_k hh (A 67) = 103; rw [hf.1]; exact b2, ?_, fun h14 e14 => ?_⟩
        · rw [z_in, hx]
          show _ ∧ _ < ((xb_n hh (A 65) : Nat) : Int)
          rw [hf.2.1]
          omega
        · rw [z_in, hx]
          show _ ∧ _ < ((xb_n hh (A 67) : Nat) : Int)
          rw [hf.2.1]
          omega
        · have e14' : h14 = mH (xb_L hh (A 67) (Int32.toNatClampNeg x6) (xb_l hh (A 65) (Int32.toNatClampNeg x6))) F mm (va_up u 0 y0) := e14
          subst e14'
          have c6 : Int32.toNatClampNeg x6 = k := by rw [z_cl, hx]; omega
          rw [c6]
          refine ih (k + 1) (x6 + 1) _ (by omega) (z_inc hx (by omega)) (by omega) (hf.tr (f0.L o67)) (fun d hd => ?_) (fun j => ?_)
          · rw [show xb_l (xb_L hh (A 67) k (xb_l hh (A 65) k)) = va_up (xb_l hh) (A 67) (va_up (xb_l hh (A 67)) k (xb_l hh (A 65) k)) from rfl, xh_up, if_neg hd]
            exact d1 d hd
          · rw [show xb_l (xb_L hh (A 67) k (xb_l hh (A 65) k)) = va_up (xb_l hh) (A 67) (va_up (xb_l hh (A 67)) k (xb_l hh (A 65) k)) from rfl, xh_up, if_pos rfl, xh_up]
            by_cases h9 : j = k
            · rw [if_pos h9, if_pos (by omega), d1 _ n67, h9]
            · rw [if_neg h9, d2 j]
              by_cases h8 : j < k
              · rw [if_pos h8, if_pos (by omega)]
              · rw [if_neg h8, if_neg (by omega)]
    exact key (vN v 66) 0 0 h (by omega) rfl (by omega) f0.rf (fun _ _ => rfl) (fun j => by rw [if_neg (Nat.not_lt_zero j)])
  have L15 : ∀ y0 : Int32, (y0 = 0 ∧ ∃ i k m : Nat, ivR A F DM v x1 x2 i k m) ∨ (y0 = 1 ∧ (byd (vN v 30) x1 ∨ ∃ i m : Nat, x1.toInt = i ∧ i < vN v 30 ∧ (F (A 31) i).toInt = m ∧ m < vN v 5 ∧ byd (qt (DM m) 7) x2)) → w_M_invoke_L15 Q mm x1 x2 y0 mm (mH h F mm v) := by
    intro y0 hy
    unfold w_M_invoke_L15
    refine ⟨hB.2.1, fun h2 e2 => ?_⟩
    rw [mH_I] at e2
    subst e2
    have A0 : rA own mm A h F (va_up v 0 y0) DM len rl K := hA.dn.u (by decide)
    rw [mH_i, xh_up, if_pos rfl]
    rcases hy with ⟨ey, i, k, m, iv⟩ | ⟨ey, hy1⟩
    rotate_left
    · subst ey
      exact ⟨hB.2.1, fun h9 => absurd h9 (by decide), fun _ => hQ1 hy1 _ (vz.a vg.rf hA.z) A0⟩
    refine ⟨hB.2.1, fun hle => ?_, fun h9 => absurd (by rw [ey]; decide) h9⟩
    obtain ⟨y1, y2, y3, y4, y5, y6⟩ := id iv
    have hX := hA.X y5
    have cx := (hA.V y5).2.2.2.1 k y6
    have cb := cx.b hX.2.2
    refine ⟨A 31, a1, a2, ?_, fun v8 e8 => ?_⟩
    · rw [z_in, y1]
      show _ ∧ _ < ((xb_n h (A 31) : Nat) : Int)
      omega
    rw [mH_o a4, z_cl, y1, Int.toNat_natCast] at e8
    have e8' : v8.toInt = m := by rw [e8]; exact y4
    have L91 : ∀ (u : Nat → Int32) (x5 : Int32), vg (va_up v 0 y0) u → u 17 = 0 → (ub (qc (DM m)) (xko (DM m) k) ≠ 0 ∨ (ub (qc (DM m)) (xko (DM m) k) = 0 ∧ vN v 66 ≠ (fPl (fun k => F (A k)) DM (mnV A F DM i 0 (xnu (DM m) k))).length)) → w_M_invoke_L91 Q mm x5 mm (mH h F mm u) := fun u x5 gu zu hwy => by
      unfold w_M_invoke_L91 w_M_invoke_L107
      refine ⟨hB.2.1, fun h2 e2 => ?_⟩
      rw [mH_I] at e2
      subst e2
      rw [mH_i, xh_up, if_pos rfl]
      exact ⟨hB.2.1, fun h9 => absurd h9 (by decide), fun _ => hQ2 i k m iv hwy _ ⟨fun j h0 h1 h2 h3 h4 h5 => by rw [xh_up, if_neg h0, gu j h1 h2 h3 h4 h5, xh_up, if_neg h0], by rw [xh_up, if_pos rfl], by rw [xh_up, if_neg (by decide)]; exact zu⟩ ((A0.vg gu zu).u (by decide))⟩
    refine m_exportKind hX A0.z e8' y3 y6 (fun v1 k1 _ => ⟨fun nek => ?_, fun ek => ?_⟩)
    · unfold w_M_invoke_L47 w_M_invoke_L70
      exact ⟨fun _ => ⟨fun _ => L91 v1 0 k1.1 k1.2.2.2 (.inl nek), fun h9 => absurd rfl h9⟩, fun h9 => absurd rfl h9⟩
    · unfold w_M_invoke_L47
      refine ⟨fun h9 => absurd h9 (by decide), fun _ => ⟨hB.2.1, m_exportNumber hX k1.2.2.2 e8' y3 y6 (by omega) (fun v2 r12 g2 z2 e12 _ => ?_)⟩⟩
      have A2 := A0.vg (k1.1.tr g2) z2
      have e30 : ∀ k, k ∉ [0, 14, 15, 16, 17, 18] → v2 k = v k := fun k hk => by
        have q : ∀ j, j ∈ [0, 14, 15, 16, 17, 18] → k ≠ j := fun j hj e => hk (e ▸ hj)
        rw [(k1.1.tr g2) k (q 14 (by decide)) (q 15 (by decide)) (q 16 (by decide)) (q 17 (by decide)) (q 18 (by decide)), xh_up, if_neg (q 0 (by decide))]
      obtain ⟨κ, c1', c2', c3'⟩ := cx
      have eκ : κ = 0 := by
        rw [ek] at c2'
        have : (0 : Int32).toInt = 0 := rfl
        omega
      subst eκ
      refine m_meantE (k := xnu (DM m) k) A2 y1 (by unfold vN at *; rw [e30 30 (by decide)]; exact y2) (κ := 0) rfl (by decide) e12 y4 c3' (fun v3 r16 g g3 z3 e16 emn f0' _ _ _ _ => ?_)
      obtain ⟨o1, -, -⟩ := f0' rfl
      have A3 := A2.vg g3 z3
      have o3 : fnO v3 g := by
        unfold fnO vN at *
        rw [g3 43 (by decide) (by decide) (by decide) (by decide) (by decide)]
        exact o1
      have ov : fnO v g := by
        unfold fnO vN at *
        rw [e30 43 (by decide)] at o1
        exact o1
      unfold w_M_invoke_L70
      refine ⟨fun h9 => absurd h9 (by decide), fun _ => ⟨hB.2.1, m_parametersOf A3 e16 o3 (fun v4 r4 g4 z4 e4 _ => ?_)⟩⟩
      have G4 := ((k1.1.tr g2).tr g3).tr g4
      have v466 : v4 66 = v 66 := by rw [G4 66 (by decide) (by decide) (by decide) (by decide) (by decide), xh_up, if_neg (by decide)]
      rw [mH_i]
      have v462 : v4 62 = v 62 := by rw [G4 62 (by decide) (by decide) (by decide) (by decide) (by decide), xh_up, if_neg (by decide)]
      rw [v462]
      have u0 : ∀ (y : Int32), vN v 66 = (fPl (fun k => F (A k)) DM g).length → ((y = 0 ∧ v 62 = 0) ∨ (y = 3 ∧ v 62 ≠ 0)) → w_M_invoke_L107 Q mm r16 y mm (mH h F mm v4) := fun y hy9 hy8 => by
        refine L107 v4 y r16 (fun k hk => ?_) z4 i k m g iv ek emn e16 ov hy9 hy8
        have q : ∀ j, j ∈ [0, 14, 15, 16, 17, 18] → k ≠ j := fun j hj e => hk (e ▸ hj)
        rw [G4 k (q 14 (by decide)) (q 15 (by decide)) (q 16 (by decide)) (q 17 (by decide)) (q 18 (by decide)), xh_up, if_neg (q 0 (by decide))]
      have elen : r4 = v 66 → vN v 66 = (fPl (fun k => F (A k)) DM g).length := fun er => by
        rw [er, n66] at e4
        omega
      rw [v466]
      refine ⟨fun er => ⟨fun e62 => u0 0 (elen er) (.inl ⟨rfl, e62⟩), fun n62 => u0 3 (elen er) (.inr ⟨rfl, n62⟩)⟩, fun hne => L91 v4 _ G4 z4 (.inr ⟨ek, fun e9 => hne (z_eq.mpr (by rw [e4, n66, e9, emn]))⟩)⟩
  unfold w_M_invoke
  exact ⟨hB.2.1, m_isExport hA (fun hb _ => ⟨fun _ => L15 1 (.inr ⟨rfl, hb⟩), fun h9 => absurd rfl h9⟩) (fun i k m y1 y2 y3 y4 y5 y6 _ => ⟨fun h9 => absurd h9 (by decide), fun _ => L15 0 (.inl ⟨rfl, i, k, m, y1, y2, y3, y4, y5, y6⟩)⟩)⟩
end MI3
