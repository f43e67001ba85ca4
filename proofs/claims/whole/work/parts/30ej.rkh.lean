-- equality: checking a module, exact (the reference)
def ckTy (D : zM) (k : Nat) : Option (Nat × Nat) := if 1 < tRn D k then some (28, qp D 1 k) else none
def ckFn (D : zM) (k : Nat) : Option (Nat × Nat) := if qt D 1 ≤ cV (qc D) (qp D 3 k) then some (20, qp D 3 k) else none
def ckTa (D : zM) (k : Nat) : Option (Nat × Nat) := lmF (qc D) false (qp D 4 k + 1) (qp D 4 k) (decide (0 < iM D 1 + k))
def ckMe (D : zM) (k : Nat) : Option (Nat × Nat) := lmF (qc D) true (qp D 5 k) (qp D 5 k) (decide (0 < iM D 2 + k))
noncomputable def ckVa (D : zM) (k : Nat) : Option (Nat × Nat) := ckCo D (qp D 6 k + 2) (ub (qc D) (qp D 6 k)).toInt
def cM1 (D : zM) : Option (Nat × Nat) := sqF (ckTy D) (qt D 1)
def cM2 (D : zM) : Option (Nat × Nat) := (cM1 D).or (sqF (ckIm D) (qt D 2))
def cM3 (D : zM) : Option (Nat × Nat) := (cM2 D).or (sqF (ckFn D) (qt D 3))
def cM4 (D : zM) : Option (Nat × Nat) := (cM3 D).or (sqF (ckTa D) (qt D 4))
def cM5 (D : zM) : Option (Nat × Nat) := (cM4 D).or (sqF (ckMe D) (qt D 5))
noncomputable def cM6 (D : zM) : Option (Nat × Nat) := (cM5 D).or (sqF (ckVa D) (qt D 6))
noncomputable def cM7 (D : zM) : Option (Nat × Nat) := (cM6 D).or (sqF (ckEx D) (qt D 7))
noncomputable def cM8 (D : zM) : Option (Nat × Nat) := (cM7 D).or (ckSt D)
noncomputable def cM9 (D : zM) : Option (Nat × Nat) := (cM8 D).or ((sqF (ckEl D) (qt D 9)).or (sqF (ckDa D) (qt D 11)))
/-- a module's first fault -/
noncomputable def ckM (D : zM) : Option (Nat × Nat) := (cM9 D).or (sqF (ckBo D) (qt D 3))
section RKH
variable {own : Nat → Nat} {mm m : Nat} {A : Nat → Nat} {h h' : xb_H} {F F' F2 : Nat → Nat → Int32} {v v' v2 : Nat → Int32} {D : zM} {Qr : xb_H → Prop}
theorem lpX {K : Nat → Int32 → xb_H → Prop} {N : Nat} {C : Prop} {P : Nat → Prop} (C0 : Option (Nat × Nat)) (fn : Nat → Option (Nat × Nat)) (hN : N ≤ 100000) (step : ∀ (n k : Nat) (x : Int32) (v1 : Nat → Int32) (h1 : xb_H), x.toInt = k → k ≤ N → vg v v1 → lq mm h h1 → (v1 17 = 0 → C ∧ ∀ i, i < k → P i) → (v1 14).toInt = qb D → xf D v1 (C0.or (sqF fn k)) → (k < N → v1 17 = 0 → ∀ (v2 : Nat → Int32) (h2 : xb_H), vg v v2 → lq mm h h2 → (v2 17 = 0 → P k) → (v2 14).toInt = qb D → xf D v2 (fn k) → K n (x + 1) (mH h2 F mm v2)) → K (n + 1) x (mH h1 F mm v1)) (v1 : Nat → Int32) (h1 : xb_H) (g1 : vg v v1) (l1 : lq mm h h1) (hC : v1 17 = 0 → C) (h14 : (v1 14).toInt = qb D) (hx0 : xf D v1 C0) : ∃ n, K n 0 (mH h1 F mm v1) := by
  have key : ∀ (n k : Nat) (x : Int32) (v1 : Nat → Int32) (h1 : xb_H), N - k ≤ n → x.toInt = k → k ≤ N → vg v v1 → lq mm h h1 → (v1 17 = 0 → C ∧ ∀ i, i < k → P i) → (v1 14).toInt = qb D → xf D v1 (C0.or (sqF fn k)) → K (n + 1) x (mH h1 F mm v1) := by
    intro n
    induction n with
    | zero =>
      intro k x v1 h1 hn hx hk g1 l1 hP h4 h5
      exact step 0 k x v1 h1 hx hk g1 l1 hP h4 h5 (fun h9 => by omega)
    | succ n ih =>
      intro k x v1 h1 hn hx hk g1 l1 hP h4 h5
      refine step (n + 1) k x v1 h1 hx hk g1 l1 hP h4 h5 (fun h9 hz v2 h2 g2 l2 hP2 h6 h7 => ih (k + 1) (x + 1) v2 h2 (by omega) (z_inc hx (by omega)) (by omega) g2 l2 (fun hz2 => ⟨(hP hz).1, fun i hi => ?_⟩) h6 (h5.s2 hz h7))
      rcases Nat.lt_or_ge i k with h8 | h8
      · exact (hP hz).2 i h8
      · have : i = k := by omega
        subst this
        exact hP2 hz2
  exact ⟨N + 1, key N 0 0 v1 h1 (by omega) rfl (by omega) g1 l1 (fun hz => ⟨hC hz, fun i hi => by omega⟩) h14 (by show xf D v1 (C0.or none); rw [Option.or_none]; exact hx0)⟩
theorem x_checkModule {x1 : Int32} {len fi : Nat} (hX : mX own mm A h F m D) (h1 : x1.toInt = m) (hz : v 17 = 0) (h14 : (v 14).toInt = qb D) (hl : lenE A h len) (hfi : (F (A 8) (12 * m + 10)).toInt = fi)
    (hQ : ∀ (v' : Nat → Int32) (h' : xb_H) (F' : Nat → Nat → Int32), cbv v v' → lq mm h h' → cmF A fi (qt D 3) F F' → (v' 17 = 0 → MV D (fun b => (F' (A 12) (fi + b)).toInt)) → xf D v' (ckM D) → (v' 17 = 0 → ∀ b, b < qt D 3 → bdF D b = .ok (F' (A 12) (fi + b)).toInt) → Qr (mH h' F' mm v')) : w_M_checkModule mm x1 (mH h F mm v) Qr := by
  obtain ⟨hB, ⟨a1, a2, a3, a4, a5, a6⟩, hR⟩ := id hX
  obtain ⟨hby, hbe, hE2, hS', h10⟩ := id hR
  have qb' : ∀ s, s < 12 → qt D s ≤ 100000 := fun s hs => by have := (hS' s hs).1; omega
  have bD : qb D ≤ 12000 := by omega
  -- the bodies
  have L377 : ∀ (v1 : Nat → Int32) (hh : xb_H), vg v v1 → lq mm h hh → (v1 17 = 0 → MV0 D) → (v1 14).toInt = qb D → xf D v1 (cM9 D) → w_M_checkModule_L377 Qr mm x1 (mH hh F mm v1) := by
    intro v1 hh g1 l1 hM h4 h5
    have hXX := hX.lq l1
    have key : ∀ (n k : Nat) (x : Int32) (v3 : Nat → Int32) (F3 : Nat → Nat → Int32), qt D 3 - k ≤ n → x.toInt = k → k ≤ qt D 3 → cbv v v3 → cmF A fi (qt D 3) F F3 → (v3 17 = 0 → MV0 D ∧ ∀ b, b < k → bok D b (F3 (A 12) (fi + b)).toInt) → (v3 14).toInt = qb D → xf D v3 ((cM9 D).or (sqF (ckBo D) k)) → (v3 17 = 0 → ∀ b, b < k → bdF D b = .ok (F3 (A 12) (fi + b)).toInt) → w_M_checkModule_L379 Qr (n + 1) mm x1 x (mH hh F3 mm v3) := by
      intro n
      induction n with
      | zero =>
        intro k x v3 F3 hn hx hk c1 c2 hP h6 h7 h8
        have X3 : mX own mm A hh F3 m D := hXX.upk (fun k hk => c2.1 _ (hB.ne ((by decide : ∀ k, k ∈ [3, 6, 7, 8, 9, 10, 11] → (∃ e ∈ aL, e.1 = k)) k hk) (by decide) ((by decide : ∀ k, k ∈ [3, 6, 7, 8, 9, 10, 11] → k ≠ 19) k hk)) (hB.ne ((by decide : ∀ k, k ∈ [3, 6, 7, 8, 9, 10, 11] → (∃ e ∈ aL, e.1 = k)) k hk) (by decide) ((by decide : ∀ k, k ∈ [3, 6, 7, 8, 9, 10, 11] → k ≠ 12) k hk)) (fun j hj => by
          have : ∀ k, k ∈ [3, 6, 7, 8, 9, 10, 11] → ∀ j, j ∈ b7 → (∃ e ∈ aL, e.1 = k) ∧ (∃ e ∈ aL, e.1 = j) ∧ k ≠ j := by decide
          obtain ⟨z1, z2, z3⟩ := this k hk j hj
          exact hB.ne z1 z2 z3))
        have ek : k = qt D 3 := by omega
        unfold w_M_checkModule_L379 w_M_checkModule_L409
        refine ⟨X3.1.2.1, m_manyOf (s := 10) X3 h1 rfl (by decide) (fun r hr _ => ⟨fun _ => hQ v3 hh F3 c1 l1 c2 (fun hz3 => ⟨(hP hz3).1, by rw [← ek]; exact (hP hz3).2⟩) (by unfold ckM; rw [← ek]; exact h7) (by rw [← ek]; exact h8), fun hle => ?_⟩)⟩
        rw [z_le, hr, hx] at hle
        omega
      | succ n ih =>
        intro k x v3 F3 hn hx hk c1 c2 hP h6 h7 h8
        have X3 : mX own mm A hh F3 m D := hXX.upk (fun k hk => c2.1 _ (hB.ne ((by decide : ∀ k, k ∈ [3, 6, 7, 8, 9, 10, 11] → (∃ e ∈ aL, e.1 = k)) k hk) (by decide) ((by decide : ∀ k, k ∈ [3, 6, 7, 8, 9, 10, 11] → k ≠ 19) k hk)) (hB.ne ((by decide : ∀ k, k ∈ [3, 6, 7, 8, 9, 10, 11] → (∃ e ∈ aL, e.1 = k)) k hk) (by decide) ((by decide : ∀ k, k ∈ [3, 6, 7, 8, 9, 10, 11] → k ≠ 12) k hk)) (fun j hj => by
          have : ∀ k, k ∈ [3, 6, 7, 8, 9, 10, 11] → ∀ j, j ∈ b7 → (∃ e ∈ aL, e.1 = k) ∧ (∃ e ∈ aL, e.1 = j) ∧ k ≠ j := by decide
          obtain ⟨z1, z2, z3⟩ := this k hk j hj
          exact hB.ne z1 z2 z3))
        have b3 := qb' 3 (by decide)
        unfold w_M_checkModule_L379 w_M_checkModule_L409
        refine ⟨X3.1.2.1, m_manyOf (s := 10) X3 h1 rfl (by decide) (fun r hr _ => ⟨fun hle => ?_, fun hle => ?_⟩)⟩
        · rw [z_le, hr, hx] at hle
          have ek : k = qt D 3 := by omega
          exact hQ v3 hh F3 c1 l1 c2 (fun hz3 => ⟨(hP hz3).1, by rw [← ek]; exact (hP hz3).2⟩) (by unfold ckM; rw [← ek]; exact h7) (by rw [← ek]; exact h8)
        · rw [z_le, hr, hx] at hle
          rw [mH_i]
          refine ⟨fun hn3 => hQ v3 hh F3 c1 l1 c2 (fun hz3 => absurd hz3 hn3) (h7.m2 hn3 (by omega)) (fun hz3 => absurd hz3 hn3), fun hz3 => ?_⟩
          obtain ⟨M0, Mb⟩ := hP hz3
          have F8 : F3 (A 8) = F (A 8) := c2.1 _ (hB.ne (by decide) (by decide) (by decide)) (hB.ne (by decide) (by decide) (by decide)) (fun k hk => by
            have : ∀ k, k ∈ b7 → (∃ e ∈ aL, e.1 = k) ∧ 8 ≠ k := by decide
            exact hB.ne (by decide) (this k hk).1 (this k hk).2)
          refine x_checkBody (b := k) (fi := fi) X3 h1 hx (by omega) hz3 h6 M0.2.1 M0.1 (hl.lq l1) (by rw [F8]; exact hfi) (fun v4 F4 w d1 d2 d3 d4 d5 d6 _ => ih (k + 1) (x + 1) v4 _ (by omega) (z_inc hx (by omega)) (by omega) (c1.tr d1) ⟨fun a e1 e2 e3 => ?_, fun j hj => ?_⟩ (fun hz4 => ⟨M0, fun b hb => ?_⟩) d4 (h7.s2 hz3 d5) (fun hz4 b hb => ?_))
          · rw [xh_up, if_neg e2, d2 a e1 e3]
            exact c2.1 a e1 e2 e3
          · rw [xh_up, if_pos rfl, xh_up, if_neg (by omega)]
            exact c2.2 j hj
          · rw [xh_up, if_pos rfl, xh_up]
            rcases Nat.lt_or_ge b k with h8 | h8
            · rw [if_neg (by omega)]
              exact Mb b h8
            · have : b = k := by omega
              subst this
              rw [if_pos rfl]
              exact d3 hz4
          · rw [xh_up, if_pos rfl, xh_up]
            rcases Nat.lt_or_ge b k with h9 | h9
            · rw [if_neg (by omega)]
              exact h8 hz3 b h9
            · have : b = k := by omega
              subst this
              rw [if_pos rfl]
              exact d6 hz4
    unfold w_M_checkModule_L377
    exact ⟨qt D 3 + 1, key (qt D 3) 0 0 v1 F (by omega) rfl (by omega) g1.bv.c ⟨fun _ _ _ _ => rfl, fun _ _ => rfl⟩ (fun hz1 => ⟨hM hz1, fun b hb => by omega⟩) h4 (by show xf D v1 ((cM9 D).or none); rw [Option.or_none]; exact h5) (fun _ b hb => by omega)⟩
  -- rows, start, exports
  have L341 : ∀ (v1 : Nat → Int32) (hh : xb_H), vg v v1 → lq mm h hh → (v1 17 = 0 → (∀ t, t < qt D 1 → tRn D t ≤ 1) ∧ (∀ f, f < iM D 0 + qt D 3 → fty D f < qt D 1) ∧ (∀ k, k < qt D 6 → ∃ E, ckE D (qp D 6 k + 2) E ∧ E ≤ qe D)) → (v1 14).toInt = qb D → xf D v1 (cM6 D) → w_M_checkModule_L341 Qr mm x1 (mH hh F mm v1) := by
    intro v1 hh g1 l1 hP h4 h5
    have hXX := hX.lq l1
    unfold w_M_checkModule_L341
    have s3 : ∀ (v2 : Nat → Int32), vg v v2 → (v2 17 = 0 → (v1 17 = 0 ∧ (∀ k, k < qt D 7 → cvX D k) ∧ cvS D)) → (v2 14).toInt = qb D → xf D v2 (cM8 D) → w_M_checkModule_L365 Qr mm x1 (mH hh F mm v2) := by
      intro v2 g2 hP2 h6 h7
      unfold w_M_checkModule_L365
      rw [mH_i]
      refine ⟨hXX.1.2.1, fun hn => L377 v2 hh g2 l1 (fun h9 => absurd h9 hn) h6 (h7.on hn), fun hz2 => x_checkRows hXX h1 hz2 h6 (fun v3 g3 y14 yx hP3 _ => L377 v3 hh (g2.tr g3) l1 (fun hz3 => ?_) y14 (h7.or hz2 yx))⟩
      obtain ⟨y1, y2, y3⟩ := hP2 hz2
      obtain ⟨w1, w2, w3⟩ := hP y1
      exact ⟨w1, w2, w3, y2, y3, (hP3 hz3).1, (hP3 hz3).2⟩
    have s2 : ∀ (v2 : Nat → Int32), vg v v2 → (v2 17 = 0 → (v1 17 = 0 ∧ (∀ k, k < qt D 7 → cvX D k))) → (v2 14).toInt = qb D → xf D v2 (cM7 D) → w_M_checkModule_L353 Qr mm x1 (mH hh F mm v2) := by
      intro v2 g2 hP2 h6 h7
      unfold w_M_checkModule_L353
      rw [mH_i]
      refine ⟨hXX.1.2.1, fun hn => s3 v2 g2 (fun h9 => absurd h9 hn) h6 (h7.on hn), fun hz2 => x_checkStart hXX h1 hz2 h6 (hP (hP2 hz2).1).2.1 (fun v3 g3 y14 yx hP3 _ => s3 v3 (g2.tr g3) (fun hz3 => ⟨(hP2 hz2).1, (hP2 hz2).2, hP3 hz3⟩) y14 (h7.or hz2 yx))⟩
    rw [mH_i]
    exact ⟨hXX.1.2.1, fun hn => s2 v1 g1 (fun h9 => absurd h9 hn) h4 (h5.on hn), fun hz1 => x_checkExports hXX h1 hz1 h4 (fun v3 g3 y14 yx hP3 _ => s2 v3 (g1.tr g3) (fun hz3 => ⟨hz1, hP3 hz3⟩) y14 (h5.or hz1 yx))⟩
  -- variables
  have L281 : ∀ (v1 : Nat → Int32) (hh : xb_H), vg v v1 → lq mm h hh → (v1 17 = 0 → (∀ t, t < qt D 1 → tRn D t ≤ 1) ∧ (∀ f, f < iM D 0 + qt D 3 → fty D f < qt D 1)) → (v1 14).toInt = qb D → xf D v1 (cM5 D) → w_M_checkModule_L281 Qr mm x1 (mH hh F mm v1) := by
    intro v1 hh g1 l1 hP h4 h5
    unfold w_M_checkModule_L281
    refine lpX (v := v) (h := h) (C0 := cM5 D) (fn := ckVa D) (N := qt D 6) (K := fun n x hx => w_M_checkModule_L283 Qr n mm x1 x hx) (C := (∀ t, t < qt D 1 → tRn D t ≤ 1) ∧ (∀ f, f < iM D 0 + qt D 3 → fty D f < qt D 1)) (P := fun k => ∃ E, ckE D (qp D 6 k + 2) E ∧ E ≤ qe D) (qb' 6 (by decide)) (fun n k x v2 h2 hx hk g2 l2 hP2 h6 h7 hK => ?_) v1 hh g1 l1 hP h4 h5
    have hXX := hX.lq l2
    unfold w_M_checkModule_L283
    refine ⟨hXX.1.2.1, m_manyOf (s := 6) hXX h1 rfl (by decide) (fun r hr _ => ⟨fun hle => ?_, fun hle => ?_⟩)⟩
    · rw [z_le, hr, hx] at hle
      have ek : k = qt D 6 := by omega
      exact L341 v2 h2 g2 l2 (fun hz2 => ⟨(hP2 hz2).1.1, (hP2 hz2).1.2, by rw [← ek]; exact (hP2 hz2).2⟩) h6 (by unfold cM6; rw [← ek]; exact h7)
    · rw [z_le, hr, hx] at hle
      rw [mH_i]
      refine ⟨fun hn => L341 v2 h2 g2 l2 (fun h9 => absurd h9 hn) h6 (h7.m2 hn hk), fun hz2 => ?_⟩
      obtain ⟨c1, q, ⟨p1, rv, ex⟩, c3⟩ := (hS' 6 (by decide)).2 k (by omega)
      have ep := rv.2.2
      subst ep
      have exl := ex.1
      refine m_placeOf hXX h1 (s := 6) rfl (by decide) hx (by omega) (fun r7 e7 _ => m_go_k hXX hz2 h1 e7 c1 (by omega) (fun v3 k3 _ => m_next_k hXX.rd k3.2.2.1 k3.2.2.2 (by omega) (fun v4 o4 z4 _ h12 e12 => ?_)))
      rw [mH_i, mH_I] at e12
      subst e12
      have P4 := o4.P k3.2.2.1
      have K4 := k3.go o4 z4
      have K5 : vk v2 (va_up v4 15 (v4 15 + 1)) D (qp D 6 k + 2) := by
        refine ⟨fun j j1 j2 j3 j4 j5 => by rw [xh_up, if_neg j2]; exact K4.1 j j1 j2 j3 j4 j5, by rw [xh_up, if_neg (by decide)]; exact K4.2.1, ⟨by rw [xh_up, if_pos rfl]; exact z_inc P4.1 (by omega), by rw [xh_up, if_neg (by decide)]; exact P4.2.1, by omega, by omega⟩, by rw [xh_up, if_neg (by decide)]; exact z4⟩
      exact x_checkConstant hXX h1 K5 ex c3 (fun v5 g5 y14 hP5 yx _ => hK (by omega) hz2 v5 h2 (g2.tr g5) l2 (fun hz5 => ⟨q, (hP5 hz5).2, c3⟩) y14 yx)
  -- memories
  have L212 : ∀ (v1 : Nat → Int32) (hh : xb_H), vg v v1 → lq mm h hh → (v1 17 = 0 → (∀ t, t < qt D 1 → tRn D t ≤ 1) ∧ (∀ f, f < iM D 0 + qt D 3 → fty D f < qt D 1)) → (v1 14).toInt = qb D → xf D v1 (cM4 D) → w_M_checkModule_L212 Qr mm x1 (mH hh F mm v1) := by
    intro v1 hh g1 l1 hP h4 h5
    unfold w_M_checkModule_L212
    refine lpX (v := v) (h := h) (C0 := cM4 D) (fn := ckMe D) (N := qt D 5) (K := fun n x hx => w_M_checkModule_L214 Qr n mm x1 x hx) (C := (∀ t, t < qt D 1 → tRn D t ≤ 1) ∧ (∀ f, f < iM D 0 + qt D 3 → fty D f < qt D 1)) (P := fun k => True) (qb' 5 (by decide)) (fun n k x v2 h2 hx hk g2 l2 hP2 h6 h7 hK => ?_) v1 hh g1 l1 hP h4 h5
    have hXX := hX.lq l2
    unfold w_M_checkModule_L214
    refine ⟨hXX.1.2.1, m_manyOf (s := 5) hXX h1 rfl (by decide) (fun r hr _ => ⟨fun hle => L281 v2 h2 g2 l2 (fun hz2 => (hP2 hz2).1) h6 (by rw [z_le, hr, hx] at hle; unfold cM5; rw [show qt D 5 = k by omega]; exact h7), fun hle => ?_⟩)⟩
    rw [z_le, hr, hx] at hle
    rw [mH_i]
    refine ⟨fun hn => L281 v2 h2 g2 l2 (fun h9 => absurd h9 hn) h6 (h7.m2 hn hk), fun hz2 => ?_⟩
    obtain ⟨c1, q, rl, c3⟩ := (hS' 5 (by decide)).2 k (by omega)
    have rlb := rLim_b rl
    obtain ⟨j1, j2, -, j4⟩ := hXX.1.g (k := 10) (kd := 102) (n := 256) (by decide)
    have j4 : xb_n h2 (A 10) = 256 := j4.elim (fun h => by omega) id
    have e4 : (4 * x1 + 2).toInt = (4 * m + 2 : Nat) := z_4 h1 rfl a1 (by decide)
    refine m_placeOf hXX h1 (s := 5) rfl (by decide) hx (by omega) (fun r7 e7 _ => m_go_k hXX hz2 h1 e7 c1 (by omega) (fun v3 k3 _ => m_placeOf hXX h1 (s := 5) rfl (by decide) hx (by omega) (fun r11 e11 _ => ⟨A 10, j1, j2, ?_, ?_, ?_⟩)))
    · rw [z_in, e4]
      show _ ∧ _ < ((xb_n h2 (A 10) : Nat) : Int)
      omega
    all_goals
      intro hle2
      unfold w_M_checkModule_L272
      refine ⟨hXX.1.2.1, x_limitsFault (w := qp D 5 k) hXX k3 rl c3 e11 (by omega) (fun v5 h5 g5 y14 l5 yx _ => hK (by omega) hz2 v5 h5 (g2.tr g5) (l2.tr l5) (fun _ => trivial) y14 ?_)⟩
      have hcn : (F (A 10) (4 * m + 2) + x).toInt = (iM D 2 + k : Nat) := z_ad2 (a6 2 (by decide)) hx (by have := hR.ib (κ := 2); omega) (by have := qb' 5 (by decide); omega)
      rw [mH_o (hXX.1.nm (by decide)), z_cl, e4, Int.toNat_natCast, z_le, hcn] at hle2
      simp only [Int32.reduceToInt] at hle2
      unfold ckMe
      first
        | rw [decide_eq_false (show ¬ 0 < iM D 2 + k by omega)]; exact yx
        | rw [decide_eq_true (show 0 < iM D 2 + k by omega)]; exact yx
  -- tables
  have L141 : ∀ (v1 : Nat → Int32) (hh : xb_H), vg v v1 → lq mm h hh → (v1 17 = 0 → (∀ t, t < qt D 1 → tRn D t ≤ 1) ∧ (∀ f, f < iM D 0 + qt D 3 → fty D f < qt D 1)) → (v1 14).toInt = qb D → xf D v1 (cM3 D) → w_M_checkModule_L141 Qr mm x1 (mH hh F mm v1) := by
    intro v1 hh g1 l1 hP h4 h5
    unfold w_M_checkModule_L141
    refine lpX (v := v) (h := h) (C0 := cM3 D) (fn := ckTa D) (N := qt D 4) (K := fun n x hx => w_M_checkModule_L143 Qr n mm x1 x hx) (C := (∀ t, t < qt D 1 → tRn D t ≤ 1) ∧ (∀ f, f < iM D 0 + qt D 3 → fty D f < qt D 1)) (P := fun k => True) (qb' 4 (by decide)) (fun n k x v2 h2 hx hk g2 l2 hP2 h6 h7 hK => ?_) v1 hh g1 l1 hP h4 h5
    have hXX := hX.lq l2
    unfold w_M_checkModule_L143
    refine ⟨hXX.1.2.1, m_manyOf (s := 4) hXX h1 rfl (by decide) (fun r hr _ => ⟨fun hle => L212 v2 h2 g2 l2 (fun hz2 => (hP2 hz2).1) h6 (by rw [z_le, hr, hx] at hle; unfold cM4; rw [show qt D 4 = k by omega]; exact h7), fun hle => ?_⟩)⟩
    rw [z_le, hr, hx] at hle
    rw [mH_i]
    refine ⟨fun hn => L212 v2 h2 g2 l2 (fun h9 => absurd h9 hn) h6 (h7.m2 hn hk), fun hz2 => ?_⟩
    obtain ⟨c1, q, rt, c3⟩ := (hS' 4 (by decide)).2 k (by omega)
    have rl := rt.2
    have rlb := rLim_b rl
    obtain ⟨j1, j2, -, j4⟩ := hXX.1.g (k := 10) (kd := 102) (n := 256) (by decide)
    have j4 : xb_n h2 (A 10) = 256 := j4.elim (fun h => by omega) id
    have e4 : (4 * x1 + 1).toInt = (4 * m + 1 : Nat) := z_4 h1 rfl a1 (by decide)
    refine m_placeOf hXX h1 (s := 4) rfl (by decide) hx (by omega) (fun r7 e7 _ => m_go_k hXX hz2 h1 (p := qp D 4 k + 1) (z_inc e7 (by omega)) (by omega) (by omega) (fun v3 k3 _ => m_placeOf hXX h1 (s := 4) rfl (by decide) hx (by omega) (fun r11 e11 _ => ⟨A 10, j1, j2, ?_, ?_, ?_⟩)))
    · rw [z_in, e4]
      show _ ∧ _ < ((xb_n h2 (A 10) : Nat) : Int)
      omega
    all_goals
      intro hle2
      unfold w_M_checkModule_L203
      refine ⟨hXX.1.2.1, x_limitsFault (w := qp D 4 k) hXX k3 rl c3 e11 (by omega) (fun v5 h5 g5 y14 l5 yx _ => hK (by omega) hz2 v5 h5 (g2.tr g5) (l2.tr l5) (fun _ => trivial) y14 ?_)⟩
      have hcn : (F (A 10) (4 * m + 1) + x).toInt = (iM D 1 + k : Nat) := z_ad2 (a6 1 (by decide)) hx (by have := hR.ib (κ := 1); omega) (by have := qb' 4 (by decide); omega)
      rw [mH_o (hXX.1.nm (by decide)), z_cl, e4, Int.toNat_natCast, z_le, hcn] at hle2
      simp only [Int32.reduceToInt] at hle2
      unfold ckTa
      first
        | rw [decide_eq_false (show ¬ 0 < iM D 1 + k by omega)]; exact yx
        | rw [decide_eq_true (show 0 < iM D 1 + k by omega)]; exact yx
  -- functions' types
  have L76 : ∀ (v1 : Nat → Int32) (hh : xb_H), vg v v1 → lq mm h hh → (v1 17 = 0 → (∀ t, t < qt D 1 → tRn D t ≤ 1) ∧ (∀ k, k < qt D 2 → (ub (qc D) (kpo D k)).toInt = 0 → cV (qc D) (kpo D k + 1) < qt D 1)) → (v1 14).toInt = qb D → xf D v1 (cM2 D) → w_M_checkModule_L76 Qr mm x1 (mH hh F mm v1) := by
    intro v1 hh g1 l1 hP h4 h5
    unfold w_M_checkModule_L76
    refine lpX (v := v) (h := h) (C0 := cM2 D) (fn := ckFn D) (N := qt D 3) (K := fun n x hx => w_M_checkModule_L78 Qr n mm x1 x hx) (C := (∀ t, t < qt D 1 → tRn D t ≤ 1) ∧ (∀ k, k < qt D 2 → (ub (qc D) (kpo D k)).toInt = 0 → cV (qc D) (kpo D k + 1) < qt D 1)) (P := fun k => cV (qc D) (qp D 3 k) < qt D 1) (qb' 3 (by decide)) (fun n k x v2 h2 hx hk g2 l2 hP2 h6 h7 hK => ?_) v1 hh g1 l1 hP h4 h5
    have hXX := hX.lq l2
    unfold w_M_checkModule_L78
    refine ⟨hXX.1.2.1, m_manyOf (s := 3) hXX h1 rfl (by decide) (fun r hr _ => ⟨fun hle => ?_, fun hle => ?_⟩)⟩
    · rw [z_le, hr, hx] at hle
      have ek : k = qt D 3 := by omega
      exact L141 v2 h2 g2 l2 (fun hz2 => ⟨(hP2 hz2).1.1, fty_i (hP2 hz2).1.2 (by rw [← ek]; exact (hP2 hz2).2)⟩) h6 (by unfold cM3; rw [← ek]; exact h7)
    · rw [z_le, hr, hx] at hle
      rw [mH_i]
      refine ⟨fun hn => L141 v2 h2 g2 l2 (fun h9 => absurd h9 hn) h6 (h7.m2 hn hk), fun hz2 => ?_⟩
      obtain ⟨c1, q, ⟨y, rc⟩, c3⟩ := (hS' 3 (by decide)).2 k (by omega)
      have rb := rC_b rc
      refine m_placeOf hXX h1 (s := 3) rfl (by decide) hx (by omega) (fun r7 e7 _ => m_go_k hXX hz2 h1 e7 c1 (by omega) (fun v3 k3 _ => m_count_k hXX.rd k3.2.2.1 k3.2.2.2 rc c3 (fun v4 o4 z4 _ => m_manyOf (s := 1) hXX h1 rfl (by decide) (fun r13 e13 _ => ⟨fun hlt => ?_, fun hlt => ?_⟩))))
      · unfold w_M_checkModule_L135
        rw [Z_lt, Z_of32, e13] at hlt
        have hcv := (rC_E rc).2
        refine hK (by omega) hz2 v4 h2 (g2.tr (k3.1.tr o4.vg)) l2 (fun _ => by omega) (by rw [o4.e14]; exact k3.2.1) ?_
        unfold ckFn
        rw [if_neg (by omega)]
        exact z4
      · refine m_placeOf hXX h1 (s := 3) rfl (by decide) hx (by omega) (fun r16 e16 _ => k_fail (cc := 20) hXX.1.2.1 (by rw [o4.e14]; exact k3.2.1) bD rfl (by decide) e16 (by omega) z4 (fun v5 g5 n5 yx _ => ?_))
        unfold w_M_checkModule_L135
        rw [Z_lt, Z_of32, e13] at hlt
        have hcv := (rC_E rc).2
        refine hK (by omega) hz2 v5 h2 ((g2.tr (k3.1.tr o4.vg)).fl g5) l2 (fun h9 => absurd h9 n5) (by rw [g5 14 (by decide) (by decide), o4.e14]; exact k3.2.1) ?_
        unfold ckFn
        rw [if_pos (by omega)]
        exact yx
  -- types
  unfold w_M_checkModule
  refine lpX (v := v) (h := h) (C0 := none) (fn := ckTy D) (N := qt D 1) (K := fun n x hx => w_M_checkModule_L2 Qr n mm x1 x hx) (C := True) (P := fun k => tRn D k ≤ 1) (qb' 1 (by decide)) (fun n k x v2 h2 hx hk g2 l2 hP2 h6 h7 hK => ?_) v h vg.rf lq.rf (fun _ => trivial) h14 hz
  have hXX := hX.lq l2
  have L64 : (v2 17 = 0 → ∀ t, t < qt D 1 → tRn D t ≤ 1) → xf D v2 (cM1 D) → w_M_checkModule_L64 Qr mm x1 (mH h2 F mm v2) := by
    intro hP hC1
    unfold w_M_checkModule_L64
    rw [mH_i]
    exact ⟨hXX.1.2.1, fun hn => L76 v2 h2 g2 l2 (fun h9 => absurd h9 hn) h6 (hC1.on hn), fun hz2 => x_checkImports hXX h1 hz2 h6 (fun v3 h3 g3 l3 y14 yx hP3 _ => L76 v3 h3 (g2.tr g3) (l2.tr l3) (fun hz3 => ⟨hP hz2, hP3 hz3⟩) y14 (hC1.or hz2 yx))⟩
  unfold w_M_checkModule_L2
  refine ⟨hXX.1.2.1, m_manyOf (s := 1) hXX h1 rfl (by decide) (fun r hr _ => ⟨fun hle => ?_, fun hle => ?_⟩)⟩
  · rw [z_le, hr, hx] at hle
    have ek : k = qt D 1 := by omega
    exact L64 (fun hz2 => by rw [← ek]; exact (hP2 hz2).2) (by unfold cM1; rw [← ek]; exact h7)
  · rw [z_le, hr, hx] at hle
    rw [mH_i]
    refine ⟨fun hn => L64 (fun h9 => absurd h9 hn) (h7.m2 hn hk), fun hz2 => ?_⟩
    obtain ⟨nn, p2, kk, y1, y2, y3, y4, y5, y6, y7, y8, y9, y10, y11⟩ := hR.ty (t := k) (by omega)
    have b4 := rC_b y4
    refine m_parameters hXX hz2 h1 hx (by omega) (fun v3 r3 k3 e3 _ h8 e8 => ?_)
    rw [mH_i, mH_I] at e8
    subst e8
    have P3 := k3.2.2.1
    have P4 : rdP (va_up v3 15 (v3 15 + r3)) (qb D) (tPa D k + tPn D k) (qe D) := ⟨by rw [xh_up, if_pos rfl]; exact z_ad2 P3.1 e3 (by omega) (by omega), by rw [xh_up, if_neg (by decide)]; exact P3.2.1, by omega, by omega⟩
    have G4 : vg v (va_up v3 15 (v3 15 + r3)) := fun j j1 j2 j3 j4 j5 => by rw [xh_up, if_neg j2]; exact (g2.tr k3.1) j j1 j2 j3 j4 j5
    refine m_count_k hXX.rd P4 (by rw [xh_up, if_neg (by decide)]; exact k3.2.2.2) y4 (by omega) (fun v5 o5 z5 _ => ?_)
    have y514 : (v5 14).toInt = qb D := by rw [o5.e14, xh_up, if_neg (by decide)]; exact k3.2.1
    refine ⟨fun hle2 => ?_, fun hle2 => ?_⟩
    · unfold w_M_checkModule_L58
      rw [Z_le] at hle2
      have : (1 : Int64).toInt = 1 := rfl
      refine hK (by omega) hz2 v5 h2 (G4.tr o5.vg) l2 (fun _ => by omega) y514 ?_
      unfold ckTy
      rw [if_neg (by omega)]
      exact z5
    · refine m_placeOf hXX h1 (s := 1) rfl (by decide) hx (by omega) (fun r16 e16 _ => k_fail (cc := 28) hXX.1.2.1 y514 bD rfl (by decide) e16 (by omega) z5 (fun v6 g6 n6 yx _ => ?_))
      unfold w_M_checkModule_L58
      rw [Z_le] at hle2
      have : (1 : Int64).toInt = 1 := rfl
      refine hK (by omega) hz2 v6 h2 ((G4.tr o5.vg).fl g6) l2 (fun h9 => absurd h9 n6) (by rw [g6 14 (by decide) (by decide)]; exact y514) ?_
      unfold ckTy
      rw [if_pos (by omega)]
      exact yx
end RKH
