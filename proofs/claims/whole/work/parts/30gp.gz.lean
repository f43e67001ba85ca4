-- equality: poke, invoke
def gSL : List Nat := [31, 6, 10, 12, 8, 44, 45, 32, 33, 35, 36, 37, 38, 48, 49, 51]
section HA
variable {oc oc' or_ or' A A' : Nat → Nat} {H H1 H2 h h2 : xb_H} {F F2 : Nat → Nat → Int32} {v v2 u : Nat → Int32} {DM DM' : Nat → zM} {len rl len' rl' : Nat} {ad ad' : Nat → Nat} {W W' : wD} {σ x1 mm x3 K ts ts' mc mc' bc bs bc1 bs1 rc rs : Nat} {M M' : Nat → mD} {Qr : Int32 → xb_H → Nat → Nat → Prop} {Qs : Int32 → xb_H → Prop} {Ql : Int64 → xb_H → Prop} {r : Int32} {y : Int64} {φ φ' : Nat → Nat → Int32} {ℓ : Nat → Nat → Int64} {ν : Nat → Int32}
theorem stQ.cg0 {A A' : Nat → Nat} {F F' : Nat → Nat → Int32} {most : Nat → Int64} (hk : ∀ k, k ∈ gSL → F' (A' k) = F (A k)) (hs : stQ H ad W A F DM most) : stQ H ad W A' F' DM most := by
  unfold stQ mnV gmV oV at *
  rw [hk 31 (by decide), hk 6 (by decide), hk 10 (by decide), hk 12 (by decide), hk 8 (by decide), hk 44 (by decide), hk 45 (by decide), hk 32 (by decide), hk 33 (by decide), hk 35 (by decide), hk 36 (by decide), hk 37 (by decide), hk 38 (by decide), hk 48 (by decide), hk 49 (by decide), hk 51 (by decide)]
  exact hs
theorem gmV_cg0 {A A' : Nat → Nat} {F F' : Nat → Nat → Int32} (hk : ∀ k, k ∈ gSL → F' (A' k) = F (A k)) : gmV A' F' DM = gmV A F DM := by
  funext i
  unfold gmV oV
  rw [hk 31 (by decide), hk 32 (by decide), hk 33 (by decide), hk 37 (by decide), hk 38 (by decide)]
theorem byR_up {R : Nat → Int32} {y x : Int32} {q a : Nat} (hy : y.toInt % 256 = x.toInt % 256) : byR (va_up R q y) a = if a = q then (x.toInt % 256).toNat else byR R a := by
  unfold byR
  rw [xh_up]
  split
  · rw [hy]
  · rfl
theorem gw_poke {a1 a2 a3 : Int32} (hP : jG σ x1 mm x3 (K + 1) H bc bs) (hX : jU σ x1 mm x3 K (fun H1 b1 s1 Q2 => w_M_poke mm a1 a2 a3 H1 (fun H2 => Q2 H2 b1 s1)) Qr) : w_Law_poke x1 a1 a2 a3 H bc bs Qr := by
  obtain ⟨oc, or_, A, v, DM, len, rl, ad, W, ts, mc, M, rc, rs, hO⟩ := hP.op
  obtain ⟨⟨e0, hI, hg, hM⟩, hQ, hA, eH, nx⟩ := id hO
  subst e0
  have hB := hI.1.1
  have hW := hI.1.2.1
  have hic : vN v 30 = wic W := hQ.2.2.1.1.1
  have m9 : ∀ i, i < wic W → 0 ≤ (xb_i H (A 31) i).toInt := by
    intro i hi
    obtain ⟨m', -, -, -, -, -, ⟨dm, -⟩, -⟩ := hA.io (by rw [hic]; exact hi)
    have dm' : (xb_i H (A 31) i).toInt = m' := dm
    omega
  unfold w_Law_poke
  refine ⟨hB.k 0 (by omega), ho_poke hI hg (fun i ma sl p wd_ yy H1 hi hi2 hma hsl hp hp2 e1 hb s hI' hg' _ => ?_) (fun h9 _ _ => ⟨rfl, ?_⟩)⟩
  · obtain ⟨q1, q2, q3, q4, q5, q6⟩ := hQ.ins hI hi2
    have hpos : 0 < iM (DM (xb_i H (A 31) i).toInt.toNat) 2 + qt (DM (xb_i H (A 31) i).toInt.toNat) 5 := by
      apply Nat.pos_of_ne_zero
      intro h9
      rw [q3 h9] at hma
      cases hma
    obtain ⟨k1, k2, k3, k4, k5⟩ := q5 hpos
    rw [k2] at hma
    have ema := Option.some.inj hma
    subst ema
    rw [k5] at hsl
    have esl := Option.some.inj hsl
    subst esl
    rw [k3] at hp2
    have hpp : p < 65536 * mmP H W i := by omega
    have i03 : xb_i H1 (ad 0) 3 = xb_i H (ad 0) 3 := by rw [(s.cm hB (by decide) (fun x hx => by cases hx) (k := 0) (by decide) (by decide)).2.1]
    refine jO.chU (w := fun H1 b1 s1 Q2 => w_M_poke mm a1 a2 a3 H1 (fun H2 => Q2 H2 b1 s1)) hO hX (s.hR hB (by decide)) s.a0 hI' (hM.st hB s (by decide) (by decide) i03) hg' (fun or' Q2 hA1 hs hg2 hQ2 => r_poke hA1 (fun i' w g pc z' hi' _ hw hg' hpc hwp _ hz' u hu hf hA' => ?_) (fun h9 => ?_))
    · have ei : i' = i := by omega
      have ew : w = p := by omega
      subst ei
      subst ew
      have eo : oV A (xb_i H1) DM i' 2 = oV A (xb_i H) DM i' 2 := by
        unfold oV
        rw [(hs.1 31 (by decide)).1, (hs.1 32 (by decide)).1, (hs.1 33 (by decide)).1, (hs.1 37 (by decide)).1, (hs.1 38 (by decide)).1]
      rw [eo] at hg'
      obtain ⟨b1, b2⟩ := wQ.byt (q := w) hW hQ.2.2.1.2.2.2 rfl hi2 k1 hpp
      have egm : gmV id (fun k => xb_i H (A k)) DM i' = g := by
        show (oV A (xb_i H) DM i' 2).toInt.toNat = g
        rw [hg', Int.toNat_natCast]
      rw [egm] at b1
      have b1' : mpA (fun j => xb_i H1 (A 56) (16 * g + j)) w = mpA (xb_i H (mmS H W i')) w := by
        rw [(hs.1 56 (by decide)).1]
        exact b1
      rw [b1', (hs.1 57 (by decide)).1] at hf hA' ⊢
      have hup := hs.up (w := va_up (xb_i H (A 57)) (mpA (xb_i H (mmS H W i')) w) z') hA1.1 (j := 57) (by decide)
      obtain ⟨p1, p2, p3, p4, p5, p6, p7, p8, p9⟩ := hQ.stR hI hM s (by decide) (CA := [57]) (CL := []) (CV := []) (φ' := fun k => va_up (xb_i H1) (A 57) (va_up (xb_i H (A 57)) (mpA (xb_i H (mmS H W i')) w) z') (A k)) (ℓ' := fun k => xb_l H1 (A k)) (ν' := u) (y' := xb_l H1 mm 85) hup hs.l (fun j hj _ => vz_gVL hu j hj) (congrFun hs.2 85)
      refine hQ2 _ _ _ hf hA' ⟨p1 (by decide), p2 (by decide), ?_, p4 (by decide), p5 (by decide), p6 (by decide), p7 (by decide), p8 (by decide), p9 (by decide)⟩ hu.2.1
      obtain ⟨g2, g3, g4, g5⟩ := gWd.part hI s (by decide) (by decide) hQ.2.2.1
      obtain ⟨⟨c1, c1b, c1c, c1d⟩, -, -, ⟨w1, w2, w4, w5, w6, w7⟩⟩ := hQ.2.2.1
      have s27 := (s.cm hB (by decide) (fun x hx => by cases hx) (k := 27) (by decide) (by decide)).2
      have s28 := (s.cm hB (by decide) (fun x hx => by cases hx) (k := 28) (by decide) (by decide)).2
      have vn : ∀ j, j ∈ gVL → vN u j = vN v j := fun j hj => by unfold vN; rw [vz_gVL hu j hj]
      have hk : ∀ k, k ∈ gSL → (fun k => va_up (xb_i H1) (A 57) (va_up (xb_i H (A 57)) (mpA (xb_i H (mmS H W i')) w) z') (A k)) (id k) = (fun k => xb_i H (A k)) (id k) := fun k hk => hup k ((by decide : ∀ k, k ∈ gSL → k ∈ gAL) k hk) ((by decide : ∀ k, k ∈ gSL → k ∉ [57]) k hk)
      refine ⟨⟨by rw [vn 30 (by decide)]; exact c1, by rw [vn 43 (by decide)]; exact c1b, by rw [vn 58 (by decide)]; exact c1c, by rw [vn 47 (by decide)]; exact c1d⟩, ?_, ?_, ?_⟩
      · have e31 := hk 31 (by decide)
        dsimp only [id] at e31 ⊢
        rw [e31]
        exact g2
      · dsimp only
        rw [(hs.1 55 (by decide)).2]
        exact g3.cg0 hk
      · rw [gmV_cg0 (DM := DM) (A := id) (A' := id) (F := fun k => xb_i H (A k)) (F' := fun k => va_up (xb_i H1) (A 57) (va_up (xb_i H (A 57)) (mpA (xb_i H (mmS H W i')) w) z') (A k)) hk]
        have e54 := hup 54 (by decide) (by decide)
        have e56 := hup 56 (by decide) (by decide)
        dsimp only
        rw [e54, e56, xh_up _ (A 57) _ (A 57), if_pos rfl, (hs.1 61 (by decide)).2, (hs.1 87 (by decide)).2]
        refine ⟨g4, ⟨fun a ha => ?_, fun a ha ha2 => ?_⟩, g5, ?_, ?_, fun j hj => ?_⟩
        · dsimp only
          rw [byR_up hz', hb a]
          split
          · rfl
          · exact w2.1 a ha
        · dsimp only
          rw [byR_up hz', if_neg (by omega)]
          exact w2.2 a ha ha2
        · dsimp only
          rw [vz_gVL hu 53 (by decide)]
          exact w5
        · dsimp only
          rw [vz_gVL hu 88 (by decide), s27.1]
          exact w6
        · rw [s27.1] at hj
          rw [s28.2.1]
          exact w7 j hj
    · exfalso
      have eo : oV A (xb_i H1) DM i 2 = oV A (xb_i H) DM i 2 := by
        unfold oV
        rw [(hs.1 31 (by decide)).1, (hs.1 32 (by decide)).1, (hs.1 33 (by decide)).1, (hs.1 37 (by decide)).1, (hs.1 38 (by decide)).1]
      rcases h9 with h9 | ⟨i', hi', -, h9⟩
      · exact byd_1 h9 hi (by omega)
      · have ei : i' = i := by omega
        subst ei
        rw [eo, (hs.1 31 (by decide)).1, (hs.1 54 (by decide)).1] at h9
        rcases h9 with h9 | ⟨g, pc, g1, g2, -, g3⟩
        · have := h9 (xb_i H (A 31) i').toInt.toNat (by have := m9 i' hi2; omega)
          have h44 : qt (DM (xb_i H (A 31) i').toInt.toNat) (3 + 2) = qt (DM (xb_i H (A 31) i').toInt.toNat) 5 := rfl
          omega
        · have eg : (oV A (xb_i H) DM i' 2).toInt.toNat = g := by omega
          rw [eg] at k4
          omega
  · refine jO.twU (w := fun H1 b1 s1 Q2 => w_M_poke mm a1 a2 a3 H1 (fun H2 => Q2 H2 b1 s1)) hO hX (fun or' rc' rs' Q2 hA1 hg1 hQ2 => r_poke hA1 (fun i' w g pc z' hi' hi2 hw hg' hpc hwp hpos _ _ _ _ _ => ?_) (fun _ u hu hA' => hQ2 _ hA' (vz_gVL hu) hu.2.1))
    exfalso
    rcases h9 with h9 | ⟨i, hi, hic2, h9⟩
    · exact byd_1 h9 hi' (by omega)
    · have ei : i' = i := by omega
      subst ei
      obtain ⟨q1, q2, q3, q4, q5, q6⟩ := hQ.ins hI hic2
      obtain ⟨k1, k2, k3, k4, k5⟩ := q5 (hpos _ (by have := m9 i' hic2; omega))
      rcases h9 with h9 | ⟨ma, h9, h8⟩
      · rw [k2] at h9
        cases h9
      · rw [k2] at h9
        have ema := Option.some.inj h9
        subst ema
        have eg : (oV A (xb_i H) DM i' 2).toInt.toNat = g := by omega
        rw [eg] at k4
        rw [k3, Int.toNat_natCast] at h8
        exact byd_1 h8 hw (by omega)
end HA
