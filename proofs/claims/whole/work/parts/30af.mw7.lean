-- the reference: load
section MW7
variable {own own' : Nat → Nat} {mm m : Nat} {A A' : Nat → Nat} {h h' h2 : xb_H} {F F' F2 : Nat → Nat → Int32} {v v' v2 : Nat → Int32} {D : zM} {DM DM' : Nat → zM} {len len' rl K rc rs bc bs bc' bs' : Nat} {Qr : Int32 → xb_H → Nat → Nat → Prop}
theorem eK.pt {ex rw_ : Nat} {f : Nat → Nat} (hk : eK ex rw_ f h) (e1 : xb_k h' ex = xb_k h ex) (e2 : xb_r h' ex = xb_r h ex) (e3 : xb_k h' rw_ = xb_k h rw_) (e4 : xb_n h' rw_ = xb_n h rw_) (e5 : xb_i h' ex = xb_i h ex) (e6 : xb_i h' rw_ = xb_i h rw_) : eK ex rw_ f h' := by
  unfold eK eX
  rw [e1, e2, e3, e4, e5, e6]
  exact hk
/-- a list of arrays' numbers that none of these is -/
theorem mB.nin (hB : mB own mm A h) {k : Nat} {L : List Nat} (hk : ∃ e ∈ aL, e.1 = k) (hL : ∀ j ∈ L, ∃ e ∈ aL, e.1 = j) (hn : k ∉ L) : ∀ j ∈ L, A k ≠ A j := fun j hj => hB.ne hk (hL j hj) (fun e => hn (e ▸ hj))
theorem r_load (hA : rA own mm A h F v DM len rl (K + 1)) (hg : rG len rl rc rs (K + 1) bc bs) (hQ : ∀ r, rQq own mm h F rc rs K (Qr r)) : w_M_load mm (mH h F mm v) bc bs Qr := by
  have hB := hA.B
  obtain ⟨n5, n5'⟩ := hA.n (k := 5) (b := 64) (by decide)
  obtain ⟨n4, n4'⟩ := hA.n (k := 4) (b := 10240) (by decide)
  obtain ⟨n2, n2'⟩ := hA.n (k := 2) (b := 10240) (by decide)
  obtain ⟨n13, n13'⟩ := hA.n (k := 13) (b := 10240) (by decide)
  obtain ⟨w1, w2, w3, w4, w5, w6, w7, w8⟩ := hA.W1
  obtain ⟨r1, r2, r3, r4, r5⟩ := hA.2.2.1
  obtain ⟨rw_, ef, ro_, re_⟩ := hA.2.2.2.1
  obtain ⟨nm, hnm⟩ : ∃ nm, nm = vN v 5 := ⟨_, rfl⟩
  obtain ⟨st, hst⟩ : ∃ st, st = vN v 4 := ⟨_, rfl⟩
  obtain ⟨ts, hts⟩ : ∃ ts, ts = vN v 2 := ⟨_, rfl⟩
  obtain ⟨en, hen⟩ : ∃ en, en = vN v 13 := ⟨_, rfl⟩
  rw [← hnm] at n5
  rw [← hst] at n4
  rw [← hts] at n2
  rw [← hen] at n13
  obtain ⟨a6, a6', a6n, a6m⟩ := hB.kx (k := 6) (kd := 102) (n := 64) (by decide) (by decide)
  obtain ⟨a7, a7', a7n, a7m⟩ := hB.kx (k := 7) (kd := 102) (n := 64) (by decide) (by decide)
  obtain ⟨a8, a8', a8n, a8m⟩ := hB.kx (k := 8) (kd := 102) (n := 768) (by decide) (by decide)
  obtain ⟨a9, a9', a9n, a9m⟩ := hB.kx (k := 9) (kd := 102) (n := 768) (by decide) (by decide)
  obtain ⟨a10, a10', a10n, a10m⟩ := hB.kx (k := 10) (kd := 102) (n := 256) (by decide) (by decide)
  have L15 : ∀ y0 : Int32, (y0 ≤ 0 → nm < 64) → w_M_load_L15 Qr mm y0 mm (mH h F mm v) bc bs := by
    intro y0 hy
    unfold w_M_load_L15
    refine ⟨hB.2.1, fun h2' e2' => ?_⟩
    rw [mH_I] at e2'
    subst e2'
    rw [mH_i, xh_up, if_pos rfl, xh_up, if_neg (by decide), xh_up, if_neg (by decide), xh_up, if_neg (by decide)]
    refine ⟨hB.2.1, fun hle v5 e5 v6 e6 v7 e7 => ?_, fun _ => hQ 0 own A h F _ DM len rl bc bs zT.rf (hA.dn.u (by decide)) hg.dn⟩
    have hn64 := hy hle
    refine m_keepTape (st := st) (ts := ts) hB (by rw [xh_up, if_neg (by decide)]; exact n4) (by rw [xh_up, if_neg (by decide)]; exact n2) (by omega) (fun w kw1 kw2 _ h10 e10 => ?_)
    rw [mH_I] at e10
    subst e10
    obtain ⟨vv, hvv⟩ : ∃ vv, vv = va_up (va_up (va_up (va_up v 0 y0) 4 (va_up v 0 y0 4 + va_up v 0 y0 2)) 2 0) 14 (va_up v 0 y0 4) := ⟨_, rfl⟩
    rw [← hvv]
    have vv5 : vv 5 = v 5 := by rw [hvv, xh_up, if_neg (by decide), xh_up, if_neg (by decide), xh_up, if_neg (by decide), xh_up, if_neg (by decide)]
    have vv14 : vv 14 = v 4 := by rw [hvv, xh_up, if_pos rfl, xh_up, if_neg (by decide)]
    have vv2 : vv 2 = 0 := by rw [hvv, xh_up, if_neg (by decide), xh_up, if_pos rfl]
    have vv4 : (vv 4).toInt = (st + ts : Nat) := by
      rw [hvv, xh_up, if_neg (by decide), xh_up, if_neg (by decide), xh_up, if_pos rfl, xh_up, if_neg (by decide), xh_up, if_neg (by decide)]
      exact z_ad2 n4 n2 (by omega) (by omega)
    have vvo : ∀ j, j ≠ 0 → j ≠ 2 → j ≠ 4 → j ≠ 14 → vv j = v j := fun j j1 j2 j3 j4 => by rw [hvv, xh_up, if_neg j4, xh_up, if_neg j2, xh_up, if_neg j3, xh_up, if_neg j1]
    have c5 : (vv 5).toNatClampNeg = nm := by rw [vv5, z_cl, n5]; omega
    rw [mH_i]
    refine ⟨A 6, a6, a6', ?_, fun h14 e14 => ?_⟩
    · rw [z_in, vv5, n5]
      show _ ∧ _ < ((xb_n h (A 6) : Nat) : Int)
      omega
    rw [mH_A a6m, c5] at e14
    subst e14
    rw [mH_i]
    refine ⟨A 7, a7, a7', ?_, fun h18 e18 => ?_⟩
    · rw [z_in, vv5, n5]
      show _ ∧ _ < ((xb_n h (A 7) : Nat) : Int)
      omega
    rw [mH_A a7m, c5] at e18
    subst e18
    obtain ⟨F3, hF3⟩ : ∃ F3, F3 = va_up (va_up (va_up F (A 3) w) (A 6) (va_up (va_up F (A 3) w (A 6)) nm (vv 14))) (A 7) (va_up (va_up (va_up F (A 3) w) (A 6) (va_up (va_up F (A 3) w (A 6)) nm (vv 14)) (A 7)) nm v7) := ⟨_, rfl⟩
    rw [← hF3]
    have n36 : A 3 ≠ A 6 := hB.ne (by decide) (by decide) (by decide)
    have n37 : A 3 ≠ A 7 := hB.ne (by decide) (by decide) (by decide)
    have n67 : A 6 ≠ A 7 := hB.ne (by decide) (by decide) (by decide)
    have F3o : ∀ a, a ≠ A 3 → a ≠ A 6 → a ≠ A 7 → F3 a = F a := fun a x1 x2 x3 => by rw [hF3, xh_up, if_neg x3, xh_up, if_neg x2, xh_up, if_neg x1]
    have F33 : F3 (A 3) = w := by rw [hF3, xh_up, if_neg n37, xh_up, if_neg n36, xh_up, if_pos rfl]
    have F36 : F3 (A 6) = va_up (F (A 6)) nm (v 4) := by rw [hF3, xh_up, if_neg n67, xh_up, if_pos rfl, xh_up F, if_neg (Ne.symm n36), vv14]
    have F37 : F3 (A 7) = va_up (F (A 7)) nm (v 2) := by rw [hF3, xh_up, if_pos rfl, xh_up (va_up F (A 3) w), if_neg (Ne.symm n67), xh_up F, if_neg (Ne.symm n37), e7]
    clear hF3
    have fo : ∀ (L : List Nat), (∀ j ∈ L, ∃ e ∈ aL, e.1 = j) → ∀ k, (∃ e ∈ aL, e.1 = k) → k ∉ L → ∀ j ∈ L, A k ≠ A j := fun L hL k hk hn => hB.nin hk hL hn
    -- read, and what follows
    have rest : ∀ F5 : Nat → Nat → Int32, (∀ a, a ≠ A 8 → a ≠ A 9 → a ≠ A 10 → F5 a = F3 a) → (∀ j, j < 12 * nm → F5 (A 8) j = F (A 8) j ∧ F5 (A 9) j = F (A 9) j) → (∀ s, s < 12 → F5 (A 8) (12 * nm + s) = 0 ∧ F5 (A 9) (12 * nm + s) = 0) → (∀ j, j < 4 * nm → F5 (A 10) j = F (A 10) j) → (∀ s, s < 4 → F5 (A 10) (4 * nm + s) = 0) → ∀ u : Nat → Int32, u = va_up (va_up vv 17 0) 18 0 → w_M_readModule mm (u 14 + v7) (mH h F5 mm u) bc bs (fun (h5 : xb_H) (bc6 bs6 : Nat) => xb_ext (mH h F5 mm u) h5 → ((¬ (xb_i h5 mm 17) = (0 : Int32) → w_M_load_L196 Qr mm v5 v6 h5 bc6 bs6) ∧ ((xb_i h5 mm 17) = (0 : Int32) → ∀ h8 : xb_H, h8 = xb_I h5 mm 16 ((xb_i h5 mm 14) + v7) → w_M_checkModule mm (xb_i h8 mm 5) h8 (fun (h9 : xb_H) => xb_ext h8 h9 → w_M_load_L196 Qr mm v5 v6 h9 bc6 bs6)))) := by
      intro F5 f1 f2 f3 f4 f5 u hu
      obtain ⟨E, hE⟩ : ∃ E, E = st + ts := ⟨_, rfl⟩
      have uo : ∀ j, j ≠ 17 → j ≠ 18 → u j = vv j := fun j j1 j2 => by rw [hu, xh_up, if_neg j2, xh_up, if_neg j1]
      have u14 : (u 14).toInt = st := by rw [uo 14 (by decide) (by decide), vv14]; exact n4
      have e1 : (u 14 + v7).toInt = E := by rw [e7, hE]; exact z_ad2 u14 n2 (by omega) (by omega)
      obtain ⟨cb, hcb⟩ : ∃ cb : Nat → Int32, cb = fun j => if st ≤ j ∧ j < E then w j else 0 := ⟨_, rfl⟩
      have cbr : ∀ j, -128 ≤ (cb j).toInt ∧ (cb j).toInt ≤ 127 := fun j => by
        rw [hcb]
        dsimp only
        split
        · rename_i h9
          exact kw2 j h9.1 (by omega)
        · decide
      have q3 : ∀ k, (∃ e ∈ aL, e.1 = k) → k ∉ [3, 6, 7, 8, 9, 10] → F5 (A k) = F (A k) := fun k hk hn => by
        have := fo [3, 6, 7, 8, 9, 10] (by decide) k hk hn
        rw [f1 _ (this 8 (by decide)) (this 9 (by decide)) (this 10 (by decide)), F3o _ (this 3 (by decide)) (this 6 (by decide)) (this 7 (by decide))]
      have q9 : ∀ k, k ∈ [3, 6, 7] → F5 (A k) = F3 (A k) := fun k hk => by
        have q : ∀ k, k ∈ [3, 6, 7] → (∃ e ∈ aL, e.1 = k) ∧ k ∉ [8, 9, 10] := by decide
        have := fo [8, 9, 10] (by decide) k (q k hk).1 (q k hk).2
        exact f1 _ (this 8 (by decide)) (this 9 (by decide)) (this 10 (by decide))
      have hs5 : rdH mm (A 3) 16384 st E cb h F5 := by
        obtain ⟨a3, a3', a3n, a3m⟩ := hB.kx (k := 3) (kd := 100) (n := 16384) (by decide) (by decide)
        refine ⟨hB.2.1, a3, a3', a3n, by decide, a3m, by omega, fun j j1 j2 => ?_⟩
        rw [q9 3 (by decide), F33, hcb]
        dsimp only
        rw [if_pos ⟨j1, j2⟩]
      have fO : f0 own h F h F5 := ⟨rfl, rfl, rfl, fun a ha => ⟨rfl, by
        have na : ∀ k, (∃ e ∈ aL, e.1 = k) → a ≠ A k := fun k hk e => by
          have := hB.o hk
          rw [e] at ha
          omega
        rw [f1 _ (na 8 (by decide)) (na 9 (by decide)) (na 10 (by decide)), F3o _ (na 3 (by decide)) (na 6 (by decide)) (na 7 (by decide))]⟩⟩
      have hrw : ∀ k, (∃ e ∈ aL, e.1 = k) → rw_ ≠ A k := fun k hk e => by
        have h9 := hB.o hk
        rw [← e, ro_] at h9
        have : ∀ e ∈ aL, e.1 < 200 := by decide
        obtain ⟨e', he', rfl⟩ := hk
        have := this e' he'
        omega
      have rwm : rw_ ≠ mm := fun e => by
        have := hB.1
        rw [← e, ro_] at this
        omega
      have rwk : xb_k h rw_ ≠ 0 := by
        have h9 : xb_k h rw_ = 100 := re_.1.2.2.1
        rw [h9]
        decide
      have hg1 : bgE len (rc + (512000 - rl) / 1024 + K + 1) (rs + 2 * (512000 - rl) + 8 * K + 8) bc bs := by
        obtain ⟨g1, g2⟩ := hg
        exact ⟨by omega, by omega⟩
      refine m_readModule (fs := fun _ => 0) (P := fun _ _ => 0) (cb := cb) (en0 := en) (nm := nm) (b := st) (E := E) cbr e1 hn64 (by omega) hB hs5 (by rw [uo 5 (by decide) (by decide), vv5]; exact n5) (by rw [uo 13 (by decide) (by decide), vvo 13 (by decide) (by decide) (by decide) (by decide)]; exact n13) u14 hA.2.1 (by omega) hg1 (by omega) (by omega) ⟨fun s hs => ⟨by rw [(f3 s hs).2]; rfl, by rw [(f3 s hs).1]; rfl, fun h9 => absurd h9 (Nat.lt_irrefl 0), fun k hk => absurd hk (Nat.not_lt_zero k)⟩, fun κ hκ => by rw [f5 κ hκ]; rfl⟩ ?_
      intro own1 A1 h1 F1 v1 en1 len1 bc1 bs1 L hl1 hb1 hv1 h131 hen1 hok1 _
      obtain ⟨z1, z2, z3, z4, z5, z6, z7, z8, z9, z10, z11⟩ := id L
      obtain ⟨l1, l2, l3⟩ := hA.2.1
      obtain ⟨m1, m2, m3⟩ := id hl1
      have hll : len ≤ len1 := by
        have := (z11 11 (by decide)).2
        omega
      have hg' : rG len1 rl rc rs K bc1 bs1 := by
        obtain ⟨g1, g2⟩ := hb1
        exact ⟨by omega, by omega⟩
      have Ak : ∀ k, k ≠ 11 → k ≠ 12 → A1 k = A k := z3
      have nz : ∀ k, (∃ e ∈ aL, e.1 = k) → xb_k h (A k) ≠ 0 := fun k ⟨e, he, hk⟩ => by rw [← hk]; exact hB.pk e he
      have F1o : ∀ k, (∃ e ∈ aL, e.1 = k) → k ∉ ldl → F1 (A1 k) = F5 (A k) := fun k hk hn => by
        rw [Ak k (fun e => hn (by rw [e]; decide)) (fun e => hn (by rw [e]; decide))]
        exact z4 _ (nz k hk) (hB.nm hk) (fo ldl (by decide) k hk hn)
      have agr1 : agr (fun k => F (A k)) (fun k => F1 (A1 k)) nm st en := by
        refine ⟨fun j hj => ?_, fun m hm => ?_, fun j hj => ?_, fun j hj => ?_, fun j hj => ?_⟩
        · dsimp only
          rw [F1o 3 (by decide) (by decide), q9 3 (by decide), F33]
          exact kw1 j hj
        · dsimp only
          rw [F1o 6 (by decide) (by decide), q9 6 (by decide), F36, F1o 7 (by decide) (by decide), q9 7 (by decide), F37, xh_up, if_neg (by omega), xh_up, if_neg (by omega)]
          exact ⟨rfl, rfl⟩
        · dsimp only
          rw [Ak 8 (by decide) (by decide), Ak 9 (by decide) (by decide), (z5 j hj).1, (z5 j hj).2]
          exact f2 j hj
        · dsimp only
          rw [Ak 10 (by decide) (by decide), z6 j hj]
          exact f4 j hj
        · dsimp only
          rw [(z7 j hj).1, (z7 j hj).2, q3 11 (by decide) (by decide), q3 12 (by decide) (by decide)]
          exact ⟨rfl, rfl⟩
      have hot1 : ∀ k, k ∈ [31, 32, 33, 35, 36, 37, 38, 39, 40, 41, 44, 45, 48, 49, 51, 54, 56, 59, 69, 70, 71, 72, 73, 75, 77, 78, 79, 80] → F1 (A1 k) = F (A k) := fun k hk => by
        have q : ∀ k, k ∈ [31, 32, 33, 35, 36, 37, 38, 39, 40, 41, 44, 45, 48, 49, 51, 54, 56, 59, 69, 70, 71, 72, 73, 75, 77, 78, 79, 80] → (∃ e ∈ aL, e.1 = k) ∧ k ∉ ldl ∧ k ∉ [3, 6, 7, 8, 9, 10] := by decide
        rw [F1o k (q k hk).1 (q k hk).2.1, q3 k (q k hk).1 (q k hk).2.2]
      have v1o : ∀ j, j ∉ ldv → v1 j = v j := fun j hj => by
        have q : ∀ k ∈ ldv, j ≠ k := fun k hk e => hj (e ▸ hk)
        rw [hv1 j (q 13 (by decide)) (q 15 (by decide)) (q 16 (by decide)) (q 17 (by decide)) (q 18 (by decide)), uo j (q 17 (by decide)) (q 18 (by decide)), vvo j (q 0 (by decide)) (q 2 (by decide)) (q 4 (by decide)) (q 14 (by decide))]
      have v12 : v1 2 = 0 := by rw [hv1 2 (by decide) (by decide) (by decide) (by decide) (by decide), uo 2 (by decide) (by decide), vv2]
      have v14 : (v1 4).toInt = E := by rw [hv1 4 (by decide) (by decide) (by decide) (by decide) (by decide), uo 4 (by decide) (by decide), vv4, hE]
      have x90 : ∀ (hq : xb_H) (Fq : Nat → Nat → Int32) (vq : Nat → Int32), xb_k hq = xb_k h1 → xb_n hq = xb_n h1 → xb_r hq = xb_r h1 → Fq (A1 90) = F1 (A1 90) → Fq rw_ = F1 rw_ → ∃ (rw_ : Nat) (f : Nat → Nat), own1 rw_ = 300 ∧ eK (A1 90) rw_ f (mH hq Fq mm vq) := by
        intro hq Fq vq k1 k2 k3 k4 k5
        have n90 : A 90 ≠ mm := hB.nm (by decide)
        obtain ⟨y1, y2, y3, y4⟩ := z8 rw_ rwk rwm
        obtain ⟨x1, x2, x3, x4⟩ := z8 (A 90) (nz 90 (by decide)) n90
        refine ⟨rw_, ef, by rw [(z1.1 rw_ rwk).2]; exact ro_, ?_⟩
        have e90 := Ak 90 (by decide) (by decide)
        rw [e90] at k4 ⊢
        refine re_.pt ?_ ?_ ?_ ?_ ?_ ?_
        · show xb_k hq (A 90) = xb_k h (A 90)
          rw [k1]; exact x3
        · show xb_r hq (A 90) = xb_r h (A 90)
          rw [k3]; exact x2
        · show xb_k hq rw_ = xb_k h rw_
          rw [k1]; exact y3
        · show xb_n hq rw_ = xb_n h rw_
          rw [k2]; exact y4
        · have y9 := F1o 90 (by decide) (by decide)
          rw [e90] at y9
          rw [mH_o n90, mH_o n90, k4, y9, q3 90 (by decide) (by decide)]
        · rw [mH_o rwm, mH_o rwm, k5, z4 rw_ rwk rwm (fun k hk => hrw k ((by decide : ∀ k, k ∈ ldl → ∃ e ∈ aL, e.1 = k) k hk)), f1 _ (hrw 8 (by decide)) (hrw 9 (by decide)) (hrw 10 (by decide)), F3o _ (hrw 3 (by decide)) (hrw 6 (by decide)) (hrw 7 (by decide))]
      have n33 : xb_n h1 (A1 33) = rl := by
        rw [Ak 33 (by decide) (by decide), (z8 (A 33) (nz 33 (by decide)) (hB.nm (by decide))).2.2.2]
        exact r1
      rw [mH_i]
      refine ⟨fun hn => ?_, fun hz17 h8 e8 => ?_⟩
      · exact m_load196 (D := (0, 0, cb, fun _ => 0, fun _ _ => 0)) (E := E) (en' := en1) hA (fO.z.tr z1) z2 hl1 hll n33 (x90 h1 F1 v1 rfl rfl rfl rfl rfl) e5 e6 (by rw [← hnm, ← hst, ← hen]; exact agr1) hot1 v1o v12 v14 (by rw [← hst, ← hts]; exact hE) h131 hen1 (fun h9 => absurd h9 hn) hg' hQ
      · rw [mH_I] at e8
        subst e8
        rw [mH_i, xh_up, if_neg (by decide)]
        obtain ⟨o1, o2, ct, fs, P, mEE, c103⟩ := hok1 hz17
        obtain ⟨D, hD⟩ : ∃ D : zM, D = (st, E, cb, ct, P) := ⟨_, rfl⟩
        have d1 : qb D = st := by rw [hD]; rfl
        have d2 : qe D = E := by rw [hD]; rfl
        have d3 : qc D = cb := by rw [hD]; rfl
        have d4 : qt D = ct := by rw [hD]; rfl
        have d5 : qp D = P := by rw [hD]; rfl
        have d6 : ∀ κ, iM D κ = kcn cb (P 2) κ (ct 2) := fun κ => by rw [hD]; rfl
        have ctb : ∀ s, s < 12 → ct s ≤ 12000 := fun s hs => by
          rcases Nat.eq_zero_or_pos (ct s) with h9 | h9
          · omega
          · have := (mEE.1 s hs).2.2.1 h9
            omega
        have hRD : mdR D := by
          refine ⟨by rw [d3]; exact cbr, by rw [d1, d2]; omega, by rw [d2]; omega, fun s hs => ⟨by rw [d4]; exact ctb s hs, fun k hk => ?_⟩, by rw [d4]; exact c103⟩
          rw [d4] at hk
          rw [d1, d2, d3, d5]
          exact ((mEE.1 s hs).2.2.2 k hk).2
        have F16 : F1 (A1 6) = va_up (F (A 6)) nm (v 4) := by rw [F1o 6 (by decide) (by decide), q9 6 (by decide), F36]
        have F17 : F1 (A1 7) = va_up (F (A 7)) nm (v 2) := by rw [F1o 7 (by decide) (by decide), q9 7 (by decide), F37]
        have F13 : F1 (A1 3) = w := by rw [F1o 3 (by decide) (by decide), q9 3 (by decide), F33]
        have hmd : ∀ φ : Nat → Nat → Int32, (∀ k, k ∈ [3, 6, 7, 8, 9, 10, 11] → φ k = F1 (A1 k)) → mdP φ len1 nm D := by
          intro φ hφ
          refine ⟨hn64, ?_, ?_, fun j j1 j2 => ?_, fun s hs => ?_, fun κ hκ => ?_⟩
          · rw [hφ 6 (by decide), F16, xh_up, if_pos rfl, d1]; exact n4
          · rw [hφ 7 (by decide), F17, xh_up, if_pos rfl, d1, d2, n2]; omega
          · rw [d1] at j1
            rw [d2] at j2
            rw [hφ 3 (by decide), F13, d3, hcb]
            dsimp only
            rw [if_pos ⟨j1, j2⟩]
          · obtain ⟨y1, y2, y3, y4⟩ := mEE.1 s hs
            rw [hφ 9 (by decide), hφ 8 (by decide), hφ 11 (by decide), d4, d5]
            exact ⟨y1, fs s, y2, fun h9 => by have := y3 h9; omega, fun k hk => (y4 k hk).1⟩
          · rw [hφ 10 (by decide), d6]
            exact mEE.2 κ hκ
        have hX1 : mX own1 mm A1 h1 F1 nm D := by
          refine ⟨z2, ?_, hRD⟩
          have := hmd (fun k => F1 (A1 k)) (fun _ _ => rfl)
          unfold mdH
          rw [m1]
          exact this
        have o1k : ∀ k, (∃ e ∈ aL, e.1 = k) → own1 (A1 k) = 61 + k := fun k hk => z2.o hk
        have hrw1 : ∀ k, (∃ e ∈ aL, e.1 = k) → rw_ ≠ A1 k := fun k hk e => by
          have h9 := o1k k hk
          rw [← e, (z1.1 rw_ rwk).2, ro_] at h9
          have : ∀ e ∈ aL, e.1 < 200 := by decide
          obtain ⟨e', he', rfl⟩ := hk
          have := this e' he'
          omega
        have b7a : ∀ j ∈ b7, ∃ e ∈ aL, e.1 = j := by decide
        refine m_checkModule (fi := fs 10) hX1 (by rw [v1o 5 (by decide)]; exact n5) (by rw [xh_up, if_neg (by decide)]; exact hz17) hl1 (mEE.1 10 (by decide)).2.1 (fun v2 h2 F2 c1 lq1 cm1 mv1 _ => ?_)
        have F2o : ∀ k, (∃ e ∈ aL, e.1 = k) → k ∉ [19, 12] → k ∉ b7 → F2 (A1 k) = F1 (A1 k) := fun k hk hn hn7 => by
          have := z2.nin (L := [19, 12]) hk (by decide) hn
          exact cm1.1 _ (this 19 (by decide)) (this 12 (by decide)) (z2.nin hk b7a hn7)
        have F2a : ∀ a, (∀ k, (∃ e ∈ aL, e.1 = k) → a ≠ A1 k) → F2 a = F1 a := fun a ha => cm1.1 a (ha 19 (by decide)) (ha 12 (by decide)) (fun k hk => ha k (b7a k hk))
        have f2 : f0 own1 h1 F1 h2 F2 := ⟨lq1.1, lq1.2.1, lq1.2.2.1, fun a ha => ⟨lq1.2.2.2.1 a (fun e => by rw [e, z2.1] at ha; omega), F2a a (fun k hk e => by
          rw [e, o1k k hk] at ha
          omega)⟩⟩
        have v2o : ∀ j, j ∉ cbl → j ≠ 16 → v2 j = v1 j := fun j j1 j2 => by rw [c1 j j1, xh_up, if_neg j2]
        refine m_load196 (D := D) (E := E) (en' := en1) hA ((fO.z.tr z1).tr f2.z) (z2.f f2) (hl1.f f2) hll (by rw [lq1.2.1]; exact n33) (x90 h2 F2 v2 lq1.1 lq1.2.1 lq1.2.2.1 (F2o 90 (by decide) (by decide) (by decide)) (F2a rw_ hrw1)) e5 e6 ?_ (fun k hk => ?_) (fun j hj => ?_) ?_ ?_ (by rw [← hst, ← hts]; exact hE) ?_ hen1 (fun hz2 => ?_) hg' hQ
        · rw [← hnm, ← hst, ← hen]
          obtain ⟨g3, g6, g8, g10, g11⟩ := agr1
          refine ⟨fun j hj => ?_, fun m hm => ?_, fun j hj => ?_, fun j hj => ?_, fun j hj => ?_⟩
          · dsimp only
            rw [F2o 3 (by decide) (by decide) (by decide)]
            exact g3 j hj
          · dsimp only
            rw [F2o 6 (by decide) (by decide) (by decide), F2o 7 (by decide) (by decide) (by decide)]
            exact g6 m hm
          · dsimp only
            rw [F2o 8 (by decide) (by decide) (by decide), F2o 9 (by decide) (by decide) (by decide)]
            exact g8 j hj
          · dsimp only
            rw [F2o 10 (by decide) (by decide) (by decide)]
            exact g10 j hj
          · dsimp only
            rw [F2o 11 (by decide) (by decide) (by decide), cm1.2 j (by
              rw [d4]
              rcases Nat.eq_zero_or_pos (ct 3) with h9 | h9
              · omega
              · have := (mEE.1 10 (by decide)).2.2.1 (by omega)
                omega)]
            exact g11 j hj
        · have q : ∀ k, k ∈ [31, 32, 33, 35, 36, 37, 38, 39, 40, 41, 44, 45, 48, 49, 51, 54, 56, 59, 69, 70, 71, 72, 73, 75, 77, 78, 79, 80] → (∃ e ∈ aL, e.1 = k) ∧ k ∉ [19, 12] ∧ k ∉ b7 := by decide
          rw [F2o k (q k hk).1 (q k hk).2.1 (q k hk).2.2]
          exact hot1 k hk
        · have q : ∀ k ∈ cbl, k ∈ ldv := by decide
          rw [v2o j (fun h9 => hj (q j h9)) (fun e => hj (by rw [e]; decide))]
          exact v1o j hj
        · rw [v2o 2 (by decide) (by decide)]; exact v12
        · rw [v2o 4 (by decide) (by decide)]; exact v14
        · rw [v2o 13 (by decide) (by decide)]; exact h131
        · rw [← hnm, ← hen]
          have e8 : ∀ s, s < 12 → aV (fun k => F2 (A1 k)) 8 (12 * nm + s) = fs s := fun s hs => aV_of (by
            rw [F2o 8 (by decide) (by decide) (by decide)]
            exact (mEE.1 s hs).2.1)
          refine ⟨hn64, o1, o2, hmd _ (fun k hk => ?_), hRD, by rw [d2]; exact Nat.le_refl _, fun s hs h9 => ?_, ?_⟩
          · have q : ∀ k, k ∈ [3, 6, 7, 8, 9, 10, 11] → (∃ e ∈ aL, e.1 = k) ∧ k ∉ [19, 12] ∧ k ∉ b7 := by decide
            exact F2o k (q k hk).1 (q k hk).2.1 (q k hk).2.2
          · rw [e8 s hs]
            rw [d4] at h9 ⊢
            exact ((mEE.1 s hs).2.2.1 h9).2
          · rw [e8 10 (by decide)]
            exact mv1 hz2
    have l124 : ∀ F4 : Nat → Nat → Int32, (∀ a, a ≠ A 8 → a ≠ A 9 → F4 a = F3 a) → (∀ j, j < 12 * nm → F4 (A 8) j = F (A 8) j ∧ F4 (A 9) j = F (A 9) j) → (∀ s, s < 12 → F4 (A 8) (12 * nm + s) = 0 ∧ F4 (A 9) (12 * nm + s) = 0) → ∀ (n k : Nat) (x4 : Int32) (w5 : Nat → Int32), 4 - k ≤ n → x4.toInt = k → k ≤ 4 → (∀ j, j < 4 * nm → w5 j = F (A 10) j) → (∀ s, s < k → w5 (4 * nm + s) = 0) → w_M_load_L124 Qr (n + 1) mm v5 v6 v7 x4 (mH h (va_up F4 (A 10) w5) mm vv) bc bs := by
      intro F4 p1 p2 p3
      have n810 : A 8 ≠ A 10 := hB.ne (by decide) (by decide) (by decide)
      have n910 : A 9 ≠ A 10 := hB.ne (by decide) (by decide) (by decide)
      have out : ∀ w5 : Nat → Int32, (∀ j, j < 4 * nm → w5 j = F (A 10) j) → (∀ s, s < 4 → w5 (4 * nm + s) = 0) → ∀ h3 : xb_H, h3 = xb_I (mH h (va_up F4 (A 10) w5) mm vv) mm 17 0 → ∀ h4 : xb_H, h4 = xb_I h3 mm 18 0 → w_M_readModule mm ((xb_i h4 mm 14) + v7) h4 bc bs (fun (h5 : xb_H) (bc6 bs6 : Nat) => xb_ext h4 h5 → ((¬ (xb_i h5 mm 17) = (0 : Int32) → w_M_load_L196 Qr mm v5 v6 h5 bc6 bs6) ∧ ((xb_i h5 mm 17) = (0 : Int32) → ∀ h8 : xb_H, h8 = xb_I h5 mm 16 ((xb_i h5 mm 14) + v7) → w_M_checkModule mm (xb_i h8 mm 5) h8 (fun (h9 : xb_H) => xb_ext h8 h9 → w_M_load_L196 Qr mm v5 v6 h9 bc6 bs6)))) := by
        intro w5 i1 i2 h3 e3 h4 e4
        rw [mH_I] at e3
        subst e3
        rw [mH_I] at e4
        subst e4
        rw [mH_i]
        refine rest _ (fun a x1 x2 x3 => by rw [xh_up, if_neg x3]; exact p1 a x1 x2) (fun j hj => ?_) (fun s hs => ?_) (fun j hj => ?_) (fun s hs => ?_) _ rfl
        · rw [xh_up F4, if_neg n810, xh_up F4, if_neg n910]; exact p2 j hj
        · rw [xh_up F4, if_neg n810, xh_up F4, if_neg n910]; exact p3 s hs
        · rw [xh_up F4, if_pos rfl]; exact i1 j hj
        · rw [xh_up F4, if_pos rfl]; exact i2 s hs
      intro n
      induction n with
      | zero =>
        intro k x4 w5 hn hx hk i1 i2
        have ek : k = 4 := by omega
        unfold w_M_load_L124
        refine ⟨fun _ => ⟨hB.2.1, out w5 i1 (fun s hs => i2 s (by omega))⟩, fun h9 => ?_⟩
        rw [z_le, hx] at h9
        simp only [Int32.reduceToInt] at h9
        omega
      | succ n ih =>
        intro k x4 w5 hn hx hk i1 i2
        unfold w_M_load_L124
        refine ⟨fun h9 => ⟨hB.2.1, out w5 i1 (fun s hs => i2 s ?_)⟩, fun h9 => ?_⟩
        · rw [z_le, hx] at h9
          simp only [Int32.reduceToInt] at h9
          omega
        · rw [z_le, hx] at h9
          simp only [Int32.reduceToInt] at h9
          have e4 : (4 * vv 5 + x4).toInt = (4 * nm + k : Nat) := z_4 (by rw [vv5]; exact n5) hx hn64 (by omega)
          rw [mH_i]
          refine ⟨hB.2.1, A 10, a10, a10', ?_, fun h15 e15 => ?_⟩
          · rw [z_in, e4]
            show _ ∧ _ < ((xb_n h (A 10) : Nat) : Int)
            omega
          · rw [mH_AA a10m, z_cl, e4, Int.toNat_natCast] at e15
            subst e15
            refine ih (k + 1) (x4 + 1) _ (by omega) (z_inc hx (by omega)) (by omega) (fun j hj => ?_) (fun s hs => ?_)
            · rw [xh_up, if_neg (by omega)]; exact i1 j hj
            · rw [xh_up]
              split
              · rfl
              · exact i2 s (by omega)
    have n89 : A 8 ≠ A 9 := hB.ne (by decide) (by decide) (by decide)
    have l76 : ∀ (n k : Nat) (x4 : Int32) (F4 : Nat → Nat → Int32), 12 - k ≤ n → x4.toInt = k → k ≤ 12 → (∀ a, a ≠ A 8 → a ≠ A 9 → F4 a = F3 a) → (∀ j, j < 12 * nm → F4 (A 8) j = F (A 8) j ∧ F4 (A 9) j = F (A 9) j) → (∀ s, s < k → F4 (A 8) (12 * nm + s) = 0 ∧ F4 (A 9) (12 * nm + s) = 0) → w_M_load_L76 Qr (n + 1) mm v5 v6 v7 x4 (mH h F4 mm vv) bc bs := by
      have out : ∀ F4 : Nat → Nat → Int32, (∀ a, a ≠ A 8 → a ≠ A 9 → F4 a = F3 a) → (∀ j, j < 12 * nm → F4 (A 8) j = F (A 8) j ∧ F4 (A 9) j = F (A 9) j) → (∀ s, s < 12 → F4 (A 8) (12 * nm + s) = 0 ∧ F4 (A 9) (12 * nm + s) = 0) → ∃ n8 : Nat, w_M_load_L124 Qr n8 mm v5 v6 v7 0 (mH h F4 mm vv) bc bs := by
        intro F4 p1 p2 p3
        refine ⟨4 + 1, ?_⟩
        have t10 := fo [3, 6, 7, 8, 9] (by decide) 10 (by decide) (by decide)
        have e10 : F4 (A 10) = F (A 10) := by rw [p1 _ (t10 8 (by decide)) (t10 9 (by decide)), F3o _ (t10 3 (by decide)) (t10 6 (by decide)) (t10 7 (by decide))]
        have := l124 F4 p1 p2 p3 4 0 0 (F4 (A 10)) (by omega) rfl (by omega) (fun j hj => by rw [e10]) (fun s hs => by omega)
        rw [va_id] at this
        exact this
      intro n
      induction n with
      | zero =>
        intro k x4 F4 hn hx hk p1 p2 p3
        have ek : k = 12 := by omega
        unfold w_M_load_L76
        refine ⟨fun _ => out F4 p1 p2 (fun s hs => p3 s (by omega)), fun h9 => ?_⟩
        rw [z_le, hx] at h9
        simp only [Int32.reduceToInt] at h9
        omega
      | succ n ih =>
        intro k x4 F4 hn hx hk p1 p2 p3
        unfold w_M_load_L76
        refine ⟨fun h9 => out F4 p1 p2 (fun s hs => p3 s ?_), fun h9 => ?_⟩
        · rw [z_le, hx] at h9
          simp only [Int32.reduceToInt] at h9
          omega
        · rw [z_le, hx] at h9
          simp only [Int32.reduceToInt] at h9
          have e12 : (12 * vv 5 + x4).toInt = (12 * nm + k : Nat) := z_12 (by rw [vv5]; exact n5) hx hn64 (by omega)
          rw [mH_i]
          refine ⟨hB.2.1, A 9, a9, a9', ?_, fun h6 e6' => ?_⟩
          · rw [z_in, e12]
            show _ ∧ _ < ((xb_n h (A 9) : Nat) : Int)
            omega
          rw [mH_A a9m, z_cl, e12, Int.toNat_natCast] at e6'
          subst e6'
          rw [mH_i]
          refine ⟨A 8, a8, a8', ?_, fun h10 e10 => ?_⟩
          · rw [z_in, e12]
            show _ ∧ _ < ((xb_n h (A 8) : Nat) : Int)
            omega
          rw [mH_A a8m, z_cl, e12, Int.toNat_natCast] at e10
          subst e10
          refine ih (k + 1) (x4 + 1) _ (by omega) (z_inc hx (by omega)) (by omega) (fun a x1 x2 => ?_) (fun j hj => ?_) (fun s hs => ?_)
          · rw [xh_up, if_neg x1, xh_up, if_neg x2]; exact p1 a x1 x2
          · rw [xh_up (va_up F4 (A 9) _), if_pos rfl, xh_up (va_up F4 (A 9) _), if_neg (Ne.symm n89), xh_up F4 (A 9) _ (A 9), if_pos rfl, xh_up F4 (A 9) _ (A 8), if_neg n89, xh_up (F4 (A 8)), if_neg (by omega), xh_up (F4 (A 9)), if_neg (by omega)]
            exact p2 j hj
          · rw [xh_up (va_up F4 (A 9) _), if_pos rfl, xh_up (va_up F4 (A 9) _), if_neg (Ne.symm n89), xh_up F4 (A 9) _ (A 9), if_pos rfl, xh_up F4 (A 9) _ (A 8), if_neg n89, xh_up (F4 (A 8)), xh_up (F4 (A 9))]
            split
            · exact ⟨rfl, rfl⟩
            · exact p3 s (by omega)
    have t8 := fo [3, 6, 7] (by decide) 8 (by decide) (by decide)
    have t9 := fo [3, 6, 7] (by decide) 9 (by decide) (by decide)
    exact ⟨12 + 1, l76 12 0 0 F3 (by omega) rfl (by omega) (fun _ _ _ => rfl) (fun j _ => by rw [F3o _ (t8 3 (by decide)) (t8 6 (by decide)) (t8 7 (by decide)), F3o _ (t9 3 (by decide)) (t9 6 (by decide)) (t9 7 (by decide))]; exact ⟨rfl, rfl⟩) (fun s hs => by omega)⟩
  unfold w_M_load
  rw [mH_i]
  refine ⟨hB.2.1, fun h9 => L15 0 (fun _ => ?_), fun h9 => L15 1 (fun h8 => absurd h8 (by decide))⟩
  rcases Nat.lt_or_ge nm 64 with h8 | h8
  · exact h8
  · exfalso
    apply h9
    rw [z_eq, n5]
    simp only [Int32.reduceToInt]
    omega
end MW7
