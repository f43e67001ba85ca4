-- the reference's reader: what is written with an instruction; an instruction list
section MR6
variable {h : xb_H} {F : Nat → Nat → Int32} {mm st N b e p p' q : Nat} {cb v v' v2 : Nat → Int32}
theorem rW_1i : rW cb 1 p q ↔ q = p + 1 ∧ (ub cb p = 64 ∨ (¬ ub cb p < 124 ∧ ¬ 127 < ub cb p)) := ⟨fun h => h.2.1 rfl, fun h => ⟨fun e => by omega, fun _ => h, fun e => by omega, fun e => by omega, fun e => by omega, fun e => by omega, fun e => by omega, fun e => by omega, fun e => by omega, fun e => by omega, fun e => by omega, by omega⟩⟩
theorem rW_4i : rW cb 4 p q ↔ ∃ x, rC cb p = some (q, x) := ⟨fun h => h.2.2.1 rfl, fun h => ⟨fun e => by omega, fun e => by omega, fun _ => h, fun e => by omega, fun e => by omega, fun e => by omega, fun e => by omega, fun e => by omega, fun e => by omega, fun e => by omega, fun e => by omega, by omega⟩⟩
theorem rW_5i : rW cb 5 p q ↔ ∃ p1 L p2 x, rC cb p = some (p1, L) ∧ cks cb L.toInt.toNat p1 = some p2 ∧ rC cb p2 = some (q, x) := ⟨fun h => h.2.2.2.1 rfl, fun h => ⟨fun e => by omega, fun e => by omega, fun e => by omega, fun _ => h, fun e => by omega, fun e => by omega, fun e => by omega, fun e => by omega, fun e => by omega, fun e => by omega, fun e => by omega, by omega⟩⟩
theorem rW_6i : rW cb 6 p q ↔ ∃ p1 x, rC cb p = some (p1, x) ∧ ub cb p1 = 0 ∧ q = p1 + 1 := ⟨fun h => h.2.2.2.2.1 rfl, fun h => ⟨fun e => by omega, fun e => by omega, fun e => by omega, fun e => by omega, fun _ => h, fun e => by omega, fun e => by omega, fun e => by omega, fun e => by omega, fun e => by omega, fun e => by omega, by omega⟩⟩
theorem rW_7i : rW cb 7 p q ↔ ∃ p1 x y, rC cb p = some (p1, x) ∧ rC cb p1 = some (q, y) := ⟨fun h => h.2.2.2.2.2.1 rfl, fun h => ⟨fun e => by omega, fun e => by omega, fun e => by omega, fun e => by omega, fun e => by omega, fun _ => h, fun e => by omega, fun e => by omega, fun e => by omega, fun e => by omega, fun e => by omega, by omega⟩⟩
theorem rW_8i : rW cb 8 p q ↔ ub cb p = 0 ∧ q = p + 1 := ⟨fun h => h.2.2.2.2.2.2.1 rfl, fun h => ⟨fun e => by omega, fun e => by omega, fun e => by omega, fun e => by omega, fun e => by omega, fun e => by omega, fun _ => h, fun e => by omega, fun e => by omega, fun e => by omega, fun e => by omega, by omega⟩⟩
theorem rW_9i : rW cb 9 p q ↔ rds cb 32 5 p = some q := ⟨fun h => h.2.2.2.2.2.2.2.1 rfl, fun h => ⟨fun e => by omega, fun e => by omega, fun e => by omega, fun e => by omega, fun e => by omega, fun e => by omega, fun e => by omega, fun _ => h, fun e => by omega, fun e => by omega, fun e => by omega, by omega⟩⟩
theorem rW_10i : rW cb 10 p q ↔ rds cb 64 10 p = some q := ⟨fun h => h.2.2.2.2.2.2.2.2.1 rfl, fun h => ⟨fun e => by omega, fun e => by omega, fun e => by omega, fun e => by omega, fun e => by omega, fun e => by omega, fun e => by omega, fun e => by omega, fun _ => h, fun e => by omega, fun e => by omega, by omega⟩⟩
theorem rW_11i : rW cb 11 p q ↔ q = p + 4 := ⟨fun h => h.2.2.2.2.2.2.2.2.2.1 rfl, fun h => ⟨fun e => by omega, fun e => by omega, fun e => by omega, fun e => by omega, fun e => by omega, fun e => by omega, fun e => by omega, fun e => by omega, fun e => by omega, fun _ => h, fun e => by omega, by omega⟩⟩
theorem rW_12i : rW cb 12 p q ↔ q = p + 8 := ⟨fun h => h.2.2.2.2.2.2.2.2.2.2.1 rfl, fun h => ⟨fun e => by omega, fun e => by omega, fun e => by omega, fun e => by omega, fun e => by omega, fun e => by omega, fun e => by omega, fun e => by omega, fun e => by omega, fun e => by omega, fun _ => h, by omega⟩⟩
theorem rW_13i : ¬ rW cb 13 p q := fun h => by
  have := h.2.2.2.2.2.2.2.2.2.2.2
  omega
theorem ub_0 : ¬ ub cb p < 0 := by
  have := ub_r (cb := cb) (p := p)
  rw [z_lt]
  simp only [Int32.reduceToInt]
  omega
theorem ub_le0 : ub cb p ≤ 0 ↔ ub cb p = 0 := by
  have := ub_r (cb := cb) (p := p)
  rw [z_le, z_eq]
  simp only [Int32.reduceToInt]
  omega
theorem rC_in {p1 : Nat} {x y : Int64} {q1 : Nat} (h1 : rC cb p = some (p1, x)) (h2 : rC cb p = some (q1, y)) : p1 = q1 ∧ x = y := by
  rw [h1] at h2
  simp only [Option.some.injEq, Prod.mk.injEq] at h2
  exact h2
theorem m_written {x1 x2 : Int32} {op : Nat} {Qr : xb_H → Prop} (hx : x1.toInt = op) (hs : rdH mm st N b e cb h F) (hp : rdP v b p e) (hQ : Sp0 h F mm v p e (fun q => rW cb (wk_sh op) p q) Qr) : w_M_written mm x1 x2 (mH h F mm v) Qr := by
  have sh : ∀ s : Nat, wk_sh op = s → Sp0 h F mm v p e (fun q => rW cb s p q) Qr := fun s hs => by rw [← hs]; exact hQ
  have one : wk_sh op = 1 → w_M_written_L15 Qr mm (mH h F mm v) := fun hsh => by
    have hQ1 := sh 1 hsh
    unfold w_M_written_L15 w_M_written_L51 w_M_written_L301
    refine ⟨hs.1, m_next hs hp (fun r v1 p1 o1 f1 b1 _ => ?_)⟩
    rw [mH_i]
    refine ⟨fun hn => hQ1 v1 p1 o1 (fun h9 => absurd h9 hn) (fun h0 ⟨q, h7, h9⟩ => b1 h0 ⟨q, _, ⟨(rW_1i.mp h7).1, rfl⟩, h9⟩), fun hz => ⟨fun h64 => ?_, fun h64 => m_isType (fun r6 h6 _ => ⟨fun hn => ?_, fun h0 => ?_⟩)⟩⟩
    · obtain ⟨f2, f3⟩ := f1 hz
      exact hQ1 v1 p1 o1 (fun _ => rW_1i.mpr ⟨f2, .inl (by rw [← f3]; exact h64)⟩) (fun _ _ => hz)
    · obtain ⟨f2, f3⟩ := f1 hz
      rcases h6 with h6 | h6
      · exact absurd h6.1 hn
      · exact hQ1 v1 p1 o1 (fun _ => rW_1i.mpr ⟨f2, .inr (by rw [← f3]; exact h6.2)⟩) (fun _ _ => hz)
    · obtain ⟨f2, f3⟩ := f1 hz
      rw [mH_i]
      refine m_failR hs.1 (o1.P hp) (by decide) (fun v' g1 g2 _ => hQ1 v' p1 (o1.tr g1) (fun h9 => absurd h9 g2) (fun _ ⟨q, h8, h9⟩ => ?_))
      have h7 := (rW_1i.mp h8).2
      rw [← f3] at h7
      rcases h6 with h6 | h6
      · exact h7.elim (fun h => absurd h h64) (fun h => absurd h h6.2)
      · rw [h6.1] at h0
        exact absurd h0 (by decide)
  have four : wk_sh op = 4 → w_M_written_L84 Qr mm (mH h F mm v) := fun hsh => by
    have hQ1 := sh 4 hsh
    unfold w_M_written_L84 w_M_written_L301
    exact ⟨hs.1, m_count hs hp (fun r v1 p1 o1 f1 b1 _ => hQ1 v1 p1 o1 (fun h9 => rW_4i.mpr ⟨r, f1 h9⟩) (fun h0 ⟨q, h7, h9⟩ => by obtain ⟨x, h6⟩ := rW_4i.mp h7; exact b1 h0 ⟨q, x, h6, h9⟩))⟩
  have zero : (wk_sh op = 0 ∨ wk_sh op = 2 ∨ wk_sh op = 3) → w_M_written_L301 Qr (mH h F mm v) := fun hsh => by
    unfold w_M_written_L301
    exact hQ v p (ro.rf hp.1 hp.2.2.2) (fun _ => rW_0 hsh) (fun h9 _ => h9)
  have bad : wk_sh op = 13 → w_M_written_L295 Qr mm x2 (mH h F mm v) := fun hsh => by
    unfold w_M_written_L295 w_M_written_L301
    exact ⟨hs.1, m_failR hs.1 hp (by decide) (fun v' g1 g2 _ => sh 13 hsh v' p g1 (fun h9 => absurd h9 g2) (fun _ ⟨q, h8, _⟩ => (rW_13i h8).elim))⟩
  have eight : wk_sh op = 8 → w_M_written_L168 Qr mm (mH h F mm v) := fun hsh => by
    have hQ1 := sh 8 hsh
    unfold w_M_written_L168 w_M_written_L301
    exact ⟨hs.1, m_wanted hs hp (fun v1 p1 o1 f1 b1 _ => hQ1 v1 p1 o1 (fun h9 => rW_8i.mpr ⟨ub_le0.mp (f1 h9).2.2, (f1 h9).1⟩) (fun h0 ⟨q, h7, h9⟩ => b1 h0 ⟨q, ⟨(rW_8i.mp h7).2, ub_0, ub_le0.mpr (rW_8i.mp h7).1⟩, h9⟩))⟩
  have hsg : w_M_written_L189 Qr mm x1 (mH h F mm v) ∨ ¬ (x1 = 65 ∨ x1 = 66) := by
    by_cases hc : x1 = 65 ∨ x1 = 66
    · refine .inl ?_
      unfold w_M_written_L189 w_M_written_L203 w_M_written_L301
      refine ⟨fun k => ⟨hs.1, m_signed (.inr rfl) hs hp (fun r v1 p1 o1 f1 b1 _ => ?_)⟩, fun k => ⟨hs.1, m_signed (.inl rfl) hs hp (fun r v1 p1 o1 f1 b1 _ => ?_)⟩⟩
      · have e6 : x1 = 66 := hc.elim (fun h => absurd h k) id
        have hsh : wk_sh op = 10 := by rw [← hx, e6]; rfl
        exact sh 10 hsh v1 p1 o1 (fun h9 => rW_10i.mpr (f1 h9)) (fun h0 ⟨q, h7, h9⟩ => b1 h0 ⟨q, r, rW_10i.mp h7, h9⟩)
      · have hsh : wk_sh op = 9 := by rw [← hx, k]; rfl
        exact sh 9 hsh v1 p1 o1 (fun h9 => rW_9i.mpr (f1 h9)) (fun h0 ⟨q, h7, h9⟩ => b1 h0 ⟨q, r, rW_9i.mp h7, h9⟩)
    · exact .inr hc
  have hsk : w_M_written_L222 Qr mm x1 (mH h F mm v) ∨ ¬ (x1 = 67 ∨ x1 = 68) := by
    by_cases hc : x1 = 67 ∨ x1 = 68
    · refine .inl ?_
      unfold w_M_written_L222 w_M_written_L238 w_M_written_L301
      refine ⟨fun k => ⟨hs.1, m_skip hs hp (fun _ => by decide) (fun v1 p1 o1 f1 b1 _ => ?_)⟩, fun k => ⟨hs.1, m_skip hs hp (fun _ => by decide) (fun v1 p1 o1 f1 b1 _ => ?_)⟩⟩
      · have e6 : x1 = 68 := hc.elim (fun h => absurd h k) id
        have hsh : wk_sh op = 12 := by rw [← hx, e6]; rfl
        exact sh 12 hsh v1 p1 o1 (fun h9 => rW_12i.mpr (f1 h9)) (fun h0 ⟨q, h7, h9⟩ => b1 h0 ⟨q, rW_12i.mp h7, h9⟩)
      · have hsh : wk_sh op = 11 := by rw [← hx, k]; rfl
        exact sh 11 hsh v1 p1 o1 (fun h9 => rW_11i.mpr (f1 h9)) (fun h0 ⟨q, h7, h9⟩ => b1 h0 ⟨q, rW_11i.mp h7, h9⟩)
    · exact .inr hc
  have lit : ∀ (c : Int32) (s : Nat), wk_sh c.toInt = s → x1 = c → wk_sh op = s := fun c s h1 h2 => by rw [← hx, h2]; exact h1
  have L156 : (x1 < 40 ∨ 62 < x1) → ¬ x1 = 2 → ¬ x1 = 3 → ¬ x1 = 4 → ¬ x1 = 12 → ¬ x1 = 13 → ¬ x1 = 16 → (x1 < 32 ∨ 36 < x1) → ¬ x1 = 14 → ¬ x1 = 17 → w_M_written_L156 Qr mm x1 x2 (mH h F mm v) := by
    intro n0 n1 n2 n3 n4 n5 n6 n7 n8 n9
    have b13 : ∀ (k : ¬ x1 = 63 ∧ ¬ x1 = 64 ∧ ¬ x1 = 65 ∧ ¬ x1 = 66 ∧ ¬ x1 = 67 ∧ ¬ x1 = 68 ∧ ¬ x1 = 0 ∧ ¬ x1 = 1 ∧ ¬ x1 = 5 ∧ ¬ x1 = 11 ∧ ¬ x1 = 15 ∧ ¬ x1 = 26 ∧ ¬ x1 = 27 ∧ (x1 < 69 ∨ ¬ x1 ≤ 191)), wk_sh op = 13 := by
      intro k
      simp only [z_eq, z_lt, z_le, hx, Int32.reduceToInt] at n0 n1 n2 n3 n4 n5 n6 n7 n8 n9 k
      clear zero bad eight four one hsg hsk lit sh hQ
      unfold wk_sh
      repeat' split
      all_goals omega
    unfold w_M_written_L156
    refine ⟨fun k => eight (lit 63 8 rfl k), fun k1 => ⟨fun k2 => ⟨fun k => hsg.elim id (fun h9 => absurd (.inl k) h9), fun k3 => ⟨fun k4 => ⟨fun k => hsk.elim id (fun h9 => absurd (.inl k) h9), fun k5 => ⟨fun k6 => ⟨fun k => zero (.inl (lit 0 0 rfl k)), fun k7 => ⟨fun k => zero (.inl (lit 1 0 rfl k)), fun k8 => ⟨fun k => zero (.inr (.inl (lit 5 2 rfl k))), fun k9 => ⟨fun k => zero (.inr (.inr (lit 11 3 rfl k))), fun k10 => ⟨fun k => zero (.inl (lit 15 0 rfl k)), fun k11 => ⟨fun k => zero (.inl (lit 26 0 rfl k)), fun k12 => ⟨fun k => zero (.inl (lit 27 0 rfl k)), fun k13 => ⟨fun k => bad (b13 ⟨k1, k2, k3, k4, k5, k6, k7, k8, k9, k10, k11, k12, k13, .inl k⟩), fun k14 => ⟨fun k => zero (.inl ?_), fun k => bad (b13 ⟨k1, k2, k3, k4, k5, k6, k7, k8, k9, k10, k11, k12, k13, .inr k⟩)⟩⟩⟩⟩⟩⟩⟩⟩⟩, fun k => hsk.elim id (fun h9 => absurd (.inr k) h9)⟩⟩, fun k => hsg.elim id (fun h9 => absurd (.inr k) h9)⟩⟩, fun k => eight (lit 64 8 rfl k)⟩⟩
    rw [z_lt, hx] at k14
    rw [z_le, hx] at k
    simp only [Int32.reduceToInt] at k14 k
    exact wk_sh_n (by omega) (by omega)
  have L92 : ¬ x1 = 2 → ¬ x1 = 3 → ¬ x1 = 4 → ¬ x1 = 12 → ¬ x1 = 13 → ¬ x1 = 16 → (x1 < 32 ∨ 36 < x1) → w_M_written_L92 Qr mm x1 x2 (mH h F mm v) := by
    intro n1 n2 n3 n4 n5 n6 n7
    unfold w_M_written_L92 w_M_written_L301
    refine ⟨fun n8 => ⟨fun n9 => ⟨fun k => L156 (.inl k) n1 n2 n3 n4 n5 n6 n7 n8 n9, fun k => ⟨fun k2 => L156 (.inr k2) n1 n2 n3 n4 n5 n6 n7 n8 n9, fun k2 => ⟨hs.1, ?_⟩⟩⟩, fun k => ⟨hs.1, ?_⟩⟩, fun k => ⟨hs.1, ?_⟩⟩
    · have hsh : wk_sh op = 7 := by
        rw [z_lt, hx] at k k2
        simp only [Int32.reduceToInt] at k k2
        exact (wk_sh_m (by omega) (by omega)).1 (by omega)
      have hQ1 := sh 7 hsh
      refine m_count hs hp (fun r v1 p1 o1 f1 b1 _ => m_count hs (o1.P hp) (fun r2 v2 p2 o2 f2 b2 _ => hQ1 v2 p2 (o1.tr o2) (fun h9 => rW_7i.mpr ⟨p1, r, r2, f1 (o2.z h9), f2 h9⟩) (fun h0 ⟨q, h7, h9⟩ => ?_)))
      obtain ⟨a, x, y, h5, h6⟩ := rW_7i.mp h7
      have hb := rC_b h6
      have hz1 := b1 h0 ⟨a, x, h5, by omega⟩
      obtain ⟨e1, -⟩ := rC_in (f1 hz1) h5
      exact b2 hz1 ⟨q, y, by rw [e1]; exact h6, h9⟩
    · have hQ1 := sh 6 (lit 17 6 rfl k)
      refine m_count hs hp (fun r v1 p1 o1 f1 b1 _ => m_wanted hs (o1.P hp) (fun v2 p2 o2 f2 b2 _ => hQ1 v2 p2 (o1.tr o2) (fun h9 => rW_6i.mpr ⟨p1, r, f1 (o2.z h9), ub_le0.mp (f2 h9).2.2, (f2 h9).1⟩) (fun h0 ⟨q, h7, h9⟩ => ?_)))
      obtain ⟨a, x, h5, h6, h8⟩ := rW_6i.mp h7
      have hz1 := b1 h0 ⟨a, x, h5, by omega⟩
      obtain ⟨e1, -⟩ := rC_in (f1 hz1) h5
      exact b2 hz1 ⟨q, ⟨by rw [e1]; exact h8, ub_0, by rw [e1]; exact ub_le0.mpr h6⟩, h9⟩
    · have hQ1 := sh 5 (lit 14 5 rfl k)
      refine m_row hs hp (fun v1 p1 o1 f1 b1 _ => m_count hs (o1.P hp) (fun r2 v2 p2 o2 f2 b2 _ => hQ1 v2 p2 (o1.tr o2) (fun h9 => ?_) (fun h0 ⟨q, h7, h9⟩ => ?_)))
      · obtain ⟨a, L, h5, h6⟩ := f1 (o2.z h9)
        exact rW_5i.mpr ⟨a, L, p1, r2, h5, h6.1 rfl, f2 h9⟩
      · obtain ⟨a, L, p2, x, h4, h5, h6⟩ := rW_5i.mp h7
        have hb := rC_b h6
        have hz1 := b1 h0 ⟨p2, ⟨a, L, h4, fun _ => h5, fun h => absurd rfl h⟩, by omega⟩
        obtain ⟨a', L', g4, g5⟩ := f1 hz1
        obtain ⟨e1, e2⟩ := rC_in g4 h4
        subst e1 e2
        have g6 := g5.1 rfl
        rw [h5] at g6
        simp only [Option.some.injEq] at g6
        subst g6
        exact b2 hz1 ⟨q, x, h6, h9⟩
  unfold w_M_written
  refine ⟨fun k => one (lit 2 1 rfl k), fun k1 => ⟨fun k => one (lit 3 1 rfl k), fun k2 => ⟨fun k3 => ⟨fun k => four (lit 12 4 rfl k), fun k4 => ⟨fun k => four (lit 13 4 rfl k), fun k5 => ⟨fun k => four (lit 16 4 rfl k), fun k6 => ⟨fun k => L92 k1 k2 k3 k4 k5 k6 (.inl k), fun k => ⟨fun k7 => L92 k1 k2 k3 k4 k5 k6 (.inr k7), fun k7 => four ?_⟩⟩⟩⟩⟩, fun k => one (lit 4 1 rfl k)⟩⟩⟩
  rw [z_lt, hx] at k k7
  simp only [Int32.reduceToInt] at k k7
  exact wk_sh_l (by omega) (by omega)
/-- what must hold of limits, of a table's kind, of a variable's -/
def rLim (cb : Nat → Int32) (p q : Nat) : Prop := (¬ ub cb p < 0 ∧ ub cb p ≤ 1) ∧ ∃ p1 x, rC cb (p + 1) = some (p1, x) ∧ ((ub cb p ≠ 1 ∧ q = p1) ∨ (ub cb p = 1 ∧ ∃ y, rC cb p1 = some (q, y)))
def rTab (cb : Nat → Int32) (p q : Nat) : Prop := ub cb p = 112 ∧ rLim cb (p + 1) q
def rVar (cb : Nat → Int32) (p q : Nat) : Prop := (¬ ub cb p < 124 ∧ ¬ 127 < ub cb p) ∧ (¬ ub cb (p + 1) < 0 ∧ ub cb (p + 1) ≤ 1) ∧ q = p + 2
/-- reading on, first: what holds if all is right -/
def Sf (h : xb_H) (F : Nat → Nat → Int32) (mm : Nat) (v : Nat → Int32) (p e : Nat) (R : Nat → Prop) (Q : xb_H → Prop) : Prop :=
  ∀ (v' : Nat → Int32) (p' : Nat), ro v v' p p' e → (v' 17 = 0 → R p') → Q (mH h F mm v')
theorem ub_1 (hby : -128 ≤ (cb p).toInt ∧ (cb p).toInt ≤ 127) : cb p = 1 ↔ ub cb p = 1 := by
  unfold ub
  rw [z_eq, z_eq, z_255]
  simp only [Int32.reduceToInt]
  omega
theorem m_limits {Qr : xb_H → Prop} (hs : rdH mm st N b e cb h F) (hby : ∀ j, -128 ≤ (cb j).toInt ∧ (cb j).toInt ≤ 127) (hp : rdP v b p e) (hQ : Sf h F mm v p e (fun q => rLim cb p q) Qr) : w_M_limits mm (mH h F mm v) Qr := by
  obtain ⟨s1, s2, s3, s4, s5, s6, s7, s8⟩ := id hs
  unfold w_M_limits w_M_limits_L32
  refine ⟨hs.1, fun v2 e2 => m_wanted hs hp (fun v1 p1 o1 f1 b1 _ => ?_)⟩
  rw [mH_i] at e2
  have L33 : ∀ y0 : Int32, (v1 17 = 0 → (y0 = 0 → ub cb p ≠ 1) ∧ (y0 ≠ 0 → ub cb p = 1)) → w_M_limits_L33 Qr mm y0 (mH h F mm v1) := by
    intro y0 hy
    unfold w_M_limits_L33 w_M_limits_L48
    refine ⟨s1, m_count hs (o1.P hp) (fun r3 v3 p3 o3 f3 b3 _ => ⟨fun h0 => hQ v3 p3 (o1.tr o3) (fun hz => ?_), fun h0 => m_count hs (o3.P (o1.P hp)) (fun r4 v4 p4 o4 f4 b4 _ => hQ v4 p4 (o1.tr (o3.tr o4)) (fun hz => ?_))⟩)⟩
    · have hz1 := o3.z hz
      obtain ⟨g1, g2⟩ := f1 hz1
      refine ⟨g2, p3, r3, by rw [← g1]; exact f3 hz, .inl ⟨(hy hz1).1 h0, rfl⟩⟩
    · have hz3 := o4.z hz
      have hz1 := o3.z hz3
      obtain ⟨g1, g2⟩ := f1 hz1
      refine ⟨g2, p3, r3, by rw [← g1]; exact f3 hz3, .inr ⟨(hy hz1).2 h0, r4, f4 hz⟩⟩
  rw [mH_i]
  refine ⟨fun hn => L33 0 (fun h9 => absurd h9 hn), fun hz => ?_⟩
  obtain ⟨g1, g2⟩ := f1 hz
  have h4 := o1.2.2.2.1
  refine ⟨st, s2, s3, ?_, ?_, ?_⟩
  · rw [e2, z_in, hp.1]
    show _ ∧ (p : Int) < xb_n h st
    omega
  all_goals
    rw [mH_o s6, z_cl, e2, hp.1, Int.toNat_natCast, s8 p hp.2.2.1 (by omega), ub_1 (hby p)]
    intro k
  · exact L33 0 (fun _ => ⟨fun _ => k, fun h9 => absurd rfl h9⟩)
  · exact L33 1 (fun _ => ⟨fun h9 => absurd h9 (by decide), fun _ => k⟩)
theorem m_tableType {Qr : xb_H → Prop} (hs : rdH mm st N b e cb h F) (hby : ∀ j, -128 ≤ (cb j).toInt ∧ (cb j).toInt ≤ 127) (hp : rdP v b p e) (hQ : Sf h F mm v p e (fun q => rTab cb p q) Qr) : w_M_tableType mm (mH h F mm v) Qr := by
  unfold w_M_tableType
  refine ⟨hs.1, m_wanted hs hp (fun v1 p1 o1 f1 b1 _ => m_limits hs hby (o1.P hp) (fun v2 p2 o2 f2 _ => hQ v2 p2 (o1.tr o2) (fun hz => ?_)))⟩
  obtain ⟨g1, g2, g3⟩ := f1 (o2.z hz)
  refine ⟨?_, by rw [← g1]; exact f2 hz⟩
  rw [z_lt] at g2
  rw [z_le] at g3
  rw [z_eq]
  simp only [Int32.reduceToInt] at *
  omega
theorem m_variableKind {Qr : xb_H → Prop} (hs : rdH mm st N b e cb h F) (hp : rdP v b p e) (hQ : Sf h F mm v p e (fun q => rVar cb p q) Qr) : w_M_variableKind mm (mH h F mm v) Qr := by
  unfold w_M_variableKind
  refine ⟨hs.1, m_valueType hs hp (fun v1 p1 o1 f1 b1 _ => m_wanted hs (o1.P hp) (fun v2 p2 o2 f2 b2 _ => hQ v2 p2 (o1.tr o2) (fun hz => ?_)))⟩
  obtain ⟨g1, g2⟩ := f1 (o2.z hz)
  obtain ⟨g3, g4⟩ := f2 hz
  rw [g1] at g4
  exact ⟨g2, g4, by omega⟩
end MR6
