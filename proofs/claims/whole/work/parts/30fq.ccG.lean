-- equality: a body of a module, by what the class holds and by the bytes
section CCH
variable {b N E : Nat} {cA cb ν ν' ν0 lo lo' iv : Nat → Int32} {T : Sm} {n : Nat → Nat} {vs : Nat → Nat → Int64} {s sa : Int32} {D : zM} {t lcn q pa P p f gs : Nat} {v10 : Nat → Int64}
theorem lgf_app : ∀ {k p : Nat}, lgf cA (k + 1) p = lgf cA k p ++ List.replicate (cV cA (lgE cA k p)) (ub cA (cE cA (lgE cA k p))).toInt
  | 0, p => by
    show List.replicate _ _ ++ [] = [] ++ List.replicate _ _
    rw [List.append_nil, List.nil_append]
    rfl
  | k + 1, p => by
    rw [lgf_s, lgf_app (k := k) (p := cE cA p + 1), lgf_s (k := k), List.append_assoc]
    rfl
theorem lgf_sp (hG : grp10 cA (2 * f) p gs v10) (hS : spZ v10 f gs lo) : ∀ k, k ≤ gs → ((lgf cA k p).length : Int) = gsum v10 f k ∧ ∀ j, j < (lgf cA k p).length → (lo j).toInt = (lgf cA k p).getD j 0 := by
  intro k
  induction k with
  | zero =>
    intro _
    exact ⟨rfl, fun j hj => absurd hj (Nat.not_lt_zero _)⟩
  | succ k ih =>
    intro hk
    obtain ⟨i1, i2⟩ := ih (by omega)
    obtain ⟨g1, g2⟩ := hG k (by omega)
    have e1 : gsum v10 f (k + 1) = gsum v10 f k + (v10 (2 * (f + k))).toInt := rfl
    rw [show 2 * f + 2 * k = 2 * (f + k) by omega] at g1 g2
    rw [lgf_app]
    refine ⟨?_, fun j hj => ?_⟩
    · rw [List.length_append, List.length_replicate]
      omega
    · rw [List.length_append, List.length_replicate] at hj
      rw [List.getD_eq_getElem?_getD]
      rcases Nat.lt_or_ge j (lgf cA k p).length with h9 | h9
      · rw [List.getElem?_append_left h9, ← List.getD_eq_getElem?_getD]
        exact i2 j h9
      · rw [List.getElem?_append_right h9, List.getElem?_replicate, if_pos (by omega)]
        rw [hS k (by omega) j (by omega) (by omega), g2]
        rfl
theorem lof_e (hG : grp10 cA (2 * f) p gs v10) (hS : spZ v10 f gs lo) {j : Nat} (hj : j < (lgf cA gs p).length) : (lo j).toInt = (lof cA gs p j).toInt := by
  unfold lof
  rw [← (lgf_sp hG hS gs (Nat.le_refl _)).2 j hj, Int32.ofInt_toInt]
theorem wkC.cg2 : ∀ {m p d : Nat}, b ≤ p → wkC cA ν b E m p d → (∀ j, p - b ≤ j → j < E - b → ν' j = ν j) → wkC cA ν' b E m p d
  | 0, p, d, _, h, _ => h
  | m + 1, p, d, hb, h, hc => by
    obtain ⟨h1, q, h2, h3, h4⟩ := h
    have hwb := rW_b h2
    refine ⟨h1, q, h2, fun h9 => ?_, h4.imp id (fun h8 => ⟨h8.1, h8.2.1, wkC.cg2 (by omega) h8.2.2 (fun j j1 j2 => hc j (by omega) j2)⟩)⟩
    have hn := h3 h9
    have hq : q ≤ E := by
      rcases h4 with h8 | h8
      · omega
      · omega
    exact hn.cg (by rw [show b + (p - b) + 1 = p + 1 by omega]; exact h2) h9 (fun k k1 k2 => hc k (by omega) (by omega))
/-- both walks end at one place -/
theorem wk_end {E1 E2 : Nat} (hCx : cx_ cA cb b N) (hN : E1 ≤ N) : ∀ (m q : Nat) (st : List (Nat × Option Nat)) (m2 d : Nat), wk cb ν E1 m q st → wkC cA ν b E2 m2 (b + q) d → d = st.length → b + E1 = E2 := by
  intro m
  induction m with
  | zero => intro q st m2 d h; exact h.elim
  | succ m ih =>
    intro q st m2 d h h2 hd
    cases m2 with
    | zero => exact h2.elim
    | succ m2 =>
      obtain ⟨w0, w1, w2, w3, w4, w5⟩ := h
      obtain ⟨h1, q', hW, hn, hend⟩ := h2
      rw [Nat.add_sub_cancel_left] at hn
      rw [hCx.1 q (by omega)] at w1 w2 w3 w4 w5
      have hb := rW_b hW
      rcases hend with ⟨e1, e2, e3⟩ | ⟨e1, e2, e3⟩
      · have : st = [] := List.length_eq_zero_iff.mp (by omega)
        have := ((w4 e2).1 this).2
        omega
      · generalize hs : wk_sh ((cA (b + q)).toInt % 256) = sh at *
        by_cases s4 : 4 ≤ sh
        · obtain ⟨q2, u1, u2, u3, u4⟩ := w5 s4
          have hx := (hn s4).1
          rw [if_neg (by omega), if_neg (by omega), show q' = b + q2 by omega] at e3
          exact ih q2 st m2 d u4 e3 hd
        by_cases s1 : sh = 1
        · have := (hW.2.1 s1).1
          rw [if_pos s1, show q' = b + (q + 2) by omega] at e3
          exact ih (q + 2) _ m2 _ (w2 s1).2.2.2 e3 (by rw [hd]; rfl)
        have hq1 := hW.1 (by omega)
        rw [if_neg s1, show q' = b + (q + 1) by omega] at e3
        by_cases s3 : sh = 3
        · rw [if_pos s3] at e3
          obtain ⟨-, z1, z2⟩ := w4 s3
          match st, hd with
          | [], hd => exact absurd ⟨s3, hd⟩ e1
          | (o, none) :: st', hd => exact ih (q + 1) st' m2 _ (z1 o st' rfl).2.2 e3 (by rw [hd]; rfl)
          | (o, some e) :: st', hd => exact ih (q + 1) st' m2 _ (z2 o e st' rfl).2.2 e3 (by rw [hd]; rfl)
        · rw [if_neg s3] at e3
          by_cases s2 : sh = 2
          · obtain ⟨o, st', y1, y2, y3, y4⟩ := w3 s2
            exact ih (q + 1) _ m2 _ y4 e3 (by rw [hd, y1]; rfl)
          · exact ih (q + 1) st m2 d (w1 (by omega)) e3 hd
theorem bdF_Z (hE : eR cA ν0 b N T n vs iv s sa) (hD : D = zk b N cA T) (hCx : cx_ cA cb b N) {i p0 : Nat} (hi : i < qt D 10) (hft : fty D (iM D 0 + i) = t) (ht : t < qt D 1) (hpa : (vs 0 (5 * t + 1)).toInt = pa) (hP : (vs 0 (5 * t + 2)).toInt = P) (hp0 : (vs 9 (5 * i)).toInt = p0)
    (hfn : ∀ i, i < iM D 0 + qt D 3 → fty D i < qt D 1) (hpN : ∀ u, u < qt D 1 → tPa D u + tPn D u ≤ b + N ∧ 0 ≤ (vs 0 (5 * u + 1)).toInt) {m E1 : Nat} (hE1 : E1 ≤ N) (hwk : wk cb ν0 E1 m p0 []) (hν : ∀ j, p0 ≤ j → j < E1 → ν j = ν0 j) (hl : (lcn : Int) = (vs 9 (5 * i + 1)).toInt)
    (hlo : ∀ j, j < lcn → (lo j).toInt = (lof cA (cV cA (cE cA (qp D 10 i))) (cE cA (cE cA (qp D 10 i))) j).toInt) : bdF D i = shZ b (bdZ n vs cb lo pa P t lcn ν (b + N + 2) p0 ([], [(0, (vs 0 (5 * t + 4)).toInt, (vs 0 (5 * t + 4)).toInt, [], 0)], 0)) := by
  have hqc : qc D = cA := by rw [hD]; rfl
  have hqe : qe D = b + N := by rw [hD]; rfl
  have hT10 : qt D 10 = T.1 10 := by rw [hD]; rfl
  have hP10 : qp D 10 i = T.2 10 i := by rw [hD]; rfl
  obtain ⟨f, hw, ⟨g0, g1, g2, g3, g4⟩, hle, hG⟩ := hE.2.2.2.2.2.2.2.1.2 i (by omega)
  rw [← hP10] at hw g0 g1 hG g3
  simp only [Nat.add_zero] at g0
  obtain ⟨hb0, hEN, m2, hw⟩ := hw
  have hpp : lgE cA (cV cA (cE cA (qp D 10 i))) (cE cA (cE cA (qp D 10 i))) = b + p0 := by omega
  rw [hpp] at hw
  have hend := wk_end hCx hE1 m p0 [] m2 0 hwk hw rfl
  have hw2 := wkC.cg2 (ν' := ν) (by omega) hw (fun j j1 j2 => hν j (by omega) (by omega))
  have hT4 := (zk_ty hE hD ht).2.2.2.2
  rw [hT4]
  unfold bdF bdG
  rw [hqc, hqe, hft, hpp]
  have hll : lcn = (lgf cA (cV cA (cE cA (qp D 10 i))) (cE cA (cE cA (qp D 10 i)))).length := by
    have g1' : (vs 9 (5 * i + 1)).toInt = ((lgf cA (cV cA (cE cA (qp D 10 i))) (cE cA (cE cA (qp D 10 i)))).length : Int) := g1
    omega
  have := bdZ_O hE hD hCx ht hpa hP hfn hpN hlo hEN m2 (b + N + 2) p0 0 [] [(0, tRt D t, tRt D t, [], 0)] 0 hw2 rfl (by omega)
  rw [hqc, hll] at this
  rw [hll]
  exact this.symm
end CCH
