-- equality, reading: faults of what is written with an instruction (the reference)
/-- the fault of what is written with an instruction of shape s that stands at w -/
def fWr (cb : Nat → Int32) (e w s p : Nat) : Nat × Nat :=
  if s = 1 ∨ s = 8 then fVT e p else if s = 4 then fC cb e p
  else if s = 5 then thC cb e p (fun p1 L => match cks cb L.toInt.toNat p1 with
    | some p2 => if p2 ≤ e then fC cb e p2 else fRow cb e 0 (e - p1 + 1) p1
    | none => fRow cb e 0 (e - p1 + 1) p1)
  else if s = 6 then thC cb e p (fun p1 _ => fVT e p1) else if s = 7 then thC cb e p (fun p1 _ => fC cb e p1)
  else if s = 9 then fds cb e 32 5 p else if s = 10 then fds cb e 64 10 p else if s = 11 ∨ s = 12 then (2, e) else (5, w)
section RF5
variable {h : xb_H} {F : Nat → Nat → Int32} {mm st N b e p p' q : Nat} {cb v v' v1 v2 : Nat → Int32} {Fl Fl2 : Nat × Nat}
theorem fWr_1 {w : Nat} : fWr cb e w 1 p = fVT e p := rfl
/-- a count, then something else -/
theorem fk_th {G : Nat → Int64 → Nat × Nat} {p1 : Nat} {r : Int64} (k1 : fkd v v1 (fC cb e p)) (o1 : ro v v1 p p1 e) (f1 : v1 17 = 0 → rC cb p = some (p1, r)) (b1 : v 17 = 0 → (∃ q x, rC cb p = some (q, x) ∧ q ≤ e) → v1 17 = 0) (k2 : fkd v1 v2 (G p1 r)) : fkd v v2 (thC cb e p G) := by
  by_cases hz : v1 17 = 0
  · rw [thC_s (f1 hz) o1.2.2.2.1]
    exact k1.go hz o1.e14 k2
  · exact (k1.ch (fun h0 _ => thC_n (fun h9 => hz (b1 h0 h9)))).sy hz k2
theorem fk_5 {w p1 : Nat} (k1 : fkd v v1 (thC cb e p (fun p1 _ => fRow cb e 0 (e - p1 + 1) p1))) (o1 : ro v v1 p p1 e) (f1 : v1 17 = 0 → ∃ a L, rC cb p = some (a, L) ∧ rRow cb 0 L.toInt.toNat a p1) (b1 : v 17 = 0 → (∃ q, (∃ a L, rC cb p = some (a, L) ∧ rRow cb 0 L.toInt.toNat a q) ∧ q ≤ e) → v1 17 = 0) (k2 : fkd v1 v2 (fC cb e p1)) : fkd v v2 (fWr cb e w 5 p) := by
  have ef : fWr cb e w 5 p = thC cb e p (fun p1 L => match cks cb L.toInt.toNat p1 with
    | some p2 => if p2 ≤ e then fC cb e p2 else fRow cb e 0 (e - p1 + 1) p1
    | none => fRow cb e 0 (e - p1 + 1) p1) := rfl
  by_cases hz : v1 17 = 0
  · obtain ⟨a, L, h1, h2⟩ := f1 hz
    have h3 := h2.1 rfl
    have h4 := cks_b h3
    have h5 := o1.2.2.2.1
    rw [ef, thC_s h1 (by omega)]
    simp only [h3]
    rw [if_pos h5]
    exact k1.go hz o1.e14 k2
  · refine (k1.ch (fun h0 _ => ?_)).sy hz k2
    rw [ef]
    unfold thC
    split
    · rename_i a L h1
      by_cases h2 : a ≤ e
      · rw [if_pos h2, if_pos h2]
        dsimp only
        split
        · rename_i p2 h3
          rw [if_neg (fun h4 => hz (b1 h0 ⟨p2, ⟨a, L, h1, fun _ => h3, fun h9 => absurd rfl h9⟩, h4⟩))]
        · rfl
      · rw [if_neg h2, if_neg h2]
    · rfl
theorem f_written {x1 x2 : Int32} {op w : Nat} {Qr : xb_H → Prop} (hx : x1.toInt = op) (hs : rdH mm st N b e cb h F) (hp : rdP v b p e) (hb : bs_ v e) (hw : x2.toInt = w) (hw2 : w ≤ 1000000) (hQ : SpF0 h F mm v p e (fun q => rW cb (wk_sh op) p q) (fWr cb e w (wk_sh op) p) Qr) : w_M_written mm x1 x2 (mH h F mm v) Qr := by
  have sh : ∀ s : Nat, wk_sh op = s → SpF0 h F mm v p e (fun q => rW cb s p q) (fWr cb e w s p) Qr := fun s hs => by rw [← hs]; exact hQ
  have one : wk_sh op = 1 → w_M_written_L15 Qr mm (mH h F mm v) := fun hsh => by
    have hQ1 := sh 1 hsh
    unfold w_M_written_L15 w_M_written_L51 w_M_written_L301
    refine ⟨hs.1, f_next hs hp hb (fun r v1 p1 o1 f1 b1 k1 _ => ?_)⟩
    rw [mH_i]
    refine ⟨fun hn => hQ1 v1 p1 o1 (fun h9 => absurd h9 hn) (fun h0 ⟨q, h7, h9⟩ => b1 h0 ⟨q, _, ⟨(rW_1i.mp h7).1, rfl⟩, h9⟩) (fk_n (p := p) k1 (fun h8 h7 => b1 h8 ⟨p + 1, _, ⟨rfl, rfl⟩, h7⟩) hn (fun h9 => by rw [fWr_1]; unfold fVT; rw [if_pos h9])), fun hz => ⟨fun h64 => ?_, fun h64 => m_isType (fun r6 h6 _ => ⟨fun hn => ?_, fun h0 => ?_⟩)⟩⟩
    · obtain ⟨f2, f3⟩ := f1 hz
      exact hQ1 v1 p1 o1 (fun _ => rW_1i.mpr ⟨f2, .inl (by rw [← f3]; exact h64)⟩) (fun _ _ => hz) (k1.go hz o1.e14 fkd.rf)
    · obtain ⟨f2, f3⟩ := f1 hz
      rcases h6 with h6 | h6
      · exact absurd h6.1 hn
      · exact hQ1 v1 p1 o1 (fun _ => rW_1i.mpr ⟨f2, .inr (by rw [← f3]; exact h6.2)⟩) (fun _ _ => hz) (k1.go hz o1.e14 fkd.rf)
    · obtain ⟨f2, f3⟩ := f1 hz
      rw [mH_i]
      have pe : ¬ e ≤ p := by
        have := o1.2.2.2.1
        omega
      refine f_fail (Fl := fWr cb e w 1 p) hs.1 (o1.P hp) (o1.bs hb) (by decide) (sub1 (p := p) (by rw [o1.2.1, f2])) (by have := hb.2.2; omega) (by rw [fWr_1]; unfold fVT; rw [if_neg pe]; exact ⟨rfl, rfl⟩) (fun v' g1 g2 g3 _ => hQ1 v' p1 (o1.tr g1) (fun h9 => absurd h9 g2) (fun _ ⟨q, h8, h9⟩ => ?_) (k1.go hz o1.e14 g3))
      have h7 := (rW_1i.mp h8).2
      rw [← f3] at h7
      rcases h6 with h6 | h6
      · exact h7.elim (fun h => absurd h h64) (fun h => absurd h h6.2)
      · rw [h6.1] at h0
        exact absurd h0 (by decide)
  have four : wk_sh op = 4 → w_M_written_L84 Qr mm (mH h F mm v) := fun hsh => by
    have hQ1 := sh 4 hsh
    unfold w_M_written_L84 w_M_written_L301
    exact ⟨hs.1, f_count hs hp hb (fun r v1 p1 o1 f1 b1 k1 _ => hQ1 v1 p1 o1 (fun h9 => rW_4i.mpr ⟨r, f1 h9⟩) (fun h0 ⟨q, h7, h9⟩ => by obtain ⟨x, h6⟩ := rW_4i.mp h7; exact b1 h0 ⟨q, x, h6, h9⟩) k1)⟩
  have zero : (wk_sh op = 0 ∨ wk_sh op = 2 ∨ wk_sh op = 3) → w_M_written_L301 Qr (mH h F mm v) := fun hsh => by
    unfold w_M_written_L301
    exact hQ v p (ro.rf hp.1 hp.2.2.2) (fun _ => rW_0 hsh) (fun h9 _ => h9) fkd.rf
  have bad : wk_sh op = 13 → w_M_written_L295 Qr mm x2 (mH h F mm v) := fun hsh => by
    unfold w_M_written_L295 w_M_written_L301
    exact ⟨hs.1, f_fail (Fl := fWr cb e w 13 p) hs.1 hp hb (by decide) hw hw2 ⟨rfl, rfl⟩ (fun v' g1 g2 g3 _ => sh 13 hsh v' p g1 (fun h9 => absurd h9 g2) (fun _ ⟨q, h8, _⟩ => (rW_13i h8).elim) g3)⟩
  have eight : wk_sh op = 8 → w_M_written_L168 Qr mm (mH h F mm v) := fun hsh => by
    have hQ1 := sh 8 hsh
    unfold w_M_written_L168 w_M_written_L301
    exact ⟨hs.1, f_wanted hs hp hb (fun v1 p1 o1 f1 b1 k1 _ => hQ1 v1 p1 o1 (fun h9 => rW_8i.mpr ⟨ub_le0.mp (f1 h9).2.2, (f1 h9).1⟩) (fun h0 ⟨q, h7, h9⟩ => b1 h0 ⟨q, ⟨(rW_8i.mp h7).2, ub_0, ub_le0.mpr (rW_8i.mp h7).1⟩, h9⟩) k1)⟩
  have hsg : w_M_written_L189 Qr mm x1 (mH h F mm v) ∨ ¬ (x1 = 65 ∨ x1 = 66) := by
    by_cases hc : x1 = 65 ∨ x1 = 66
    · refine .inl ?_
      unfold w_M_written_L189 w_M_written_L203 w_M_written_L301
      refine ⟨fun k => ⟨hs.1, f_signed (.inr rfl) hs hp hb (fun r v1 p1 o1 f1 b1 k1 _ => ?_)⟩, fun k => ⟨hs.1, f_signed (.inl rfl) hs hp hb (fun r v1 p1 o1 f1 b1 k1 _ => ?_)⟩⟩
      · have e6 : x1 = 66 := hc.elim (fun h => absurd h k) id
        have hsh : wk_sh op = 10 := by rw [← hx, e6]; rfl
        exact sh 10 hsh v1 p1 o1 (fun h9 => rW_10i.mpr (f1 h9)) (fun h0 ⟨q, h7, h9⟩ => b1 h0 ⟨q, r, rW_10i.mp h7, h9⟩) k1
      · have hsh : wk_sh op = 9 := by rw [← hx, k]; rfl
        exact sh 9 hsh v1 p1 o1 (fun h9 => rW_9i.mpr (f1 h9)) (fun h0 ⟨q, h7, h9⟩ => b1 h0 ⟨q, r, rW_9i.mp h7, h9⟩) k1
    · exact .inr hc
  have hsk : w_M_written_L222 Qr mm x1 (mH h F mm v) ∨ ¬ (x1 = 67 ∨ x1 = 68) := by
    by_cases hc : x1 = 67 ∨ x1 = 68
    · refine .inl ?_
      unfold w_M_written_L222 w_M_written_L238 w_M_written_L301
      refine ⟨fun k => ⟨hs.1, f_skip hs hp hb (fun _ => by decide) (fun v1 p1 o1 f1 b1 k1 _ => ?_)⟩, fun k => ⟨hs.1, f_skip hs hp hb (fun _ => by decide) (fun v1 p1 o1 f1 b1 k1 _ => ?_)⟩⟩
      · have e6 : x1 = 68 := hc.elim (fun h => absurd h k) id
        have hsh : wk_sh op = 12 := by rw [← hx, e6]; rfl
        exact sh 12 hsh v1 p1 o1 (fun h9 => rW_12i.mpr (f1 h9)) (fun h0 ⟨q, h7, h9⟩ => b1 h0 ⟨q, rW_12i.mp h7, h9⟩) k1
      · have hsh : wk_sh op = 11 := by rw [← hx, k]; rfl
        exact sh 11 hsh v1 p1 o1 (fun h9 => rW_11i.mpr (f1 h9)) (fun h0 ⟨q, h7, h9⟩ => b1 h0 ⟨q, rW_11i.mp h7, h9⟩) k1
    · exact .inr hc
  have lit : ∀ (c : Int32) (s : Nat), wk_sh c.toInt = s → x1 = c → wk_sh op = s := fun c s h1 h2 => by rw [← hx, h2]; exact h1
  have L156 : (x1 < 40 ∨ 62 < x1) → ¬ x1 = 2 → ¬ x1 = 3 → ¬ x1 = 4 → ¬ x1 = 12 → ¬ x1 = 13 → ¬ x1 = 16 → (x1 < 32 ∨ 36 < x1) → ¬ x1 = 14 → ¬ x1 = 17 → w_M_written_L156 Qr mm x1 x2 (mH h F mm v) := by
    intro n0 n1 n2 n3 n4 n5 n6 n7 n8 n9
    have b13 : ∀ (k : ¬ x1 = 63 ∧ ¬ x1 = 64 ∧ ¬ x1 = 65 ∧ ¬ x1 = 66 ∧ ¬ x1 = 67 ∧ ¬ x1 = 68 ∧ ¬ x1 = 0 ∧ ¬ x1 = 1 ∧ ¬ x1 = 5 ∧ ¬ x1 = 11 ∧ ¬ x1 = 15 ∧ ¬ x1 = 26 ∧ ¬ x1 = 27 ∧ (x1 < 69 ∨ ¬ x1 ≤ 191)), wk_sh op = 13 := by
      intro k
      simp only [z_eq, z_lt, z_le, hx, Int32.reduceToInt] at n0 n1 n2 n3 n4 n5 n6 n7 n8 n9 k
      clear zero bad eight four one hsg hsk lit sh hQ
      unfold wk_sh
      repeat' split
      all_goals omega
    unfold w_M_written_L156
    refine ⟨fun k => eight (lit 63 8 rfl k), fun k1 => ⟨fun k2 => ⟨fun k => hsg.elim id (fun h9 => absurd (.inl k) h9), fun k3 => ⟨fun k4 => ⟨fun k => hsk.elim id (fun h9 => absurd (.inl k) h9), fun k5 => ⟨fun k6 => ⟨fun k => zero (.inl (lit 0 0 rfl k)), fun k7 => ⟨fun k => zero (.inl (lit 1 0 rfl k)), fun k8 => ⟨fun k => zero (.inr (.inl (lit 5 2 rfl k))), fun k9 => ⟨fun k => zero (.inr (.inr (lit 11 3 rfl k))), fun k10 => ⟨fun k => zero (.inl (lit 15 0 rfl k)), fun k11 => ⟨fun k => zero (.inl (lit 26 0 rfl k)), fun k12 => ⟨fun k => zero (.inl (lit 27 0 rfl k)), fun k13 => ⟨fun k => bad (b13 ⟨k1, k2, k3, k4, k5, k6, k7, k8, k9, k10, k11, k12, k13, .inl k⟩), fun k14 => ⟨fun k => zero (.inl ?_), fun k => bad (b13 ⟨k1, k2, k3, k4, k5, k6, k7, k8, k9, k10, k11, k12, k13, .inr k⟩)⟩⟩⟩⟩⟩⟩⟩⟩⟩, fun k => hsk.elim id (fun h9 => absurd (.inr k) h9)⟩⟩, fun k => hsg.elim id (fun h9 => absurd (.inr k) h9)⟩⟩, fun k => eight (lit 64 8 rfl k)⟩⟩
    rw [z_lt, hx] at k14
    rw [z_le, hx] at k
    simp only [Int32.reduceToInt] at k14 k
    exact wk_sh_n (by omega) (by omega)
  have L92 : ¬ x1 = 2 → ¬ x1 = 3 → ¬ x1 = 4 → ¬ x1 = 12 → ¬ x1 = 13 → ¬ x1 = 16 → (x1 < 32 ∨ 36 < x1) → w_M_written_L92 Qr mm x1 x2 (mH h F mm v) := by
    intro n1 n2 n3 n4 n5 n6 n7
    unfold w_M_written_L92 w_M_written_L301
    refine ⟨fun n8 => ⟨fun n9 => ⟨fun k => L156 (.inl k) n1 n2 n3 n4 n5 n6 n7 n8 n9, fun k => ⟨fun k2 => L156 (.inr k2) n1 n2 n3 n4 n5 n6 n7 n8 n9, fun k2 => ⟨hs.1, ?_⟩⟩⟩, fun k => ⟨hs.1, ?_⟩⟩, fun k => ⟨hs.1, ?_⟩⟩
    · have hsh : wk_sh op = 7 := by
        rw [z_lt, hx] at k k2
        simp only [Int32.reduceToInt] at k k2
        exact (wk_sh_m (by omega) (by omega)).1 (by omega)
      have hQ1 := sh 7 hsh
      refine f_count hs hp hb (fun r v1 p1 o1 f1 b1 k1 _ => f_count hs (o1.P hp) (o1.bs hb) (fun r2 v2 p2 o2 f2 b2 k2 _ => hQ1 v2 p2 (o1.tr o2) (fun h9 => rW_7i.mpr ⟨p1, r, r2, f1 (o2.z h9), f2 h9⟩) (fun h0 ⟨q, h7, h9⟩ => ?_) (fk_th (G := fun p1 _ => fC cb e p1) k1 o1 f1 b1 k2)))
      obtain ⟨a, x, y, h5, h6⟩ := rW_7i.mp h7
      have hcb := rC_b h6
      have hz1 := b1 h0 ⟨a, x, h5, by omega⟩
      obtain ⟨e1, -⟩ := rC_in (f1 hz1) h5
      exact b2 hz1 ⟨q, y, by rw [e1]; exact h6, h9⟩
    · have hQ1 := sh 6 (lit 17 6 rfl k)
      refine f_count hs hp hb (fun r v1 p1 o1 f1 b1 k1 _ => f_wanted hs (o1.P hp) (o1.bs hb) (fun v2 p2 o2 f2 b2 k2 _ => hQ1 v2 p2 (o1.tr o2) (fun h9 => rW_6i.mpr ⟨p1, r, f1 (o2.z h9), ub_le0.mp (f2 h9).2.2, (f2 h9).1⟩) (fun h0 ⟨q, h7, h9⟩ => ?_) (fk_th (G := fun p1 _ => fVT e p1) k1 o1 f1 b1 k2)))
      obtain ⟨a, x, h5, h6, h8⟩ := rW_6i.mp h7
      have hz1 := b1 h0 ⟨a, x, h5, by omega⟩
      obtain ⟨e1, -⟩ := rC_in (f1 hz1) h5
      exact b2 hz1 ⟨q, ⟨by rw [e1]; exact h8, ub_0, by rw [e1]; exact ub_le0.mpr h6⟩, h9⟩
    · have hQ1 := sh 5 (lit 14 5 rfl k)
      refine f_row hs hp hb (fun v1 p1 o1 f1 b1 k1 _ => f_count hs (o1.P hp) (o1.bs hb) (fun r2 v2 p2 o2 f2 b2 k2 _ => hQ1 v2 p2 (o1.tr o2) (fun h9 => ?_) (fun h0 ⟨q, h7, h9⟩ => ?_) (fk_5 k1 o1 f1 b1 k2)))
      · obtain ⟨a, L, h5, h6⟩ := f1 (o2.z h9)
        exact rW_5i.mpr ⟨a, L, p1, r2, h5, h6.1 rfl, f2 h9⟩
      · obtain ⟨a, L, p2, x, h4, h5, h6⟩ := rW_5i.mp h7
        have hcb := rC_b h6
        have hz1 := b1 h0 ⟨p2, ⟨a, L, h4, fun _ => h5, fun h => absurd rfl h⟩, by omega⟩
        obtain ⟨a', L', g4, g5⟩ := f1 hz1
        obtain ⟨e1, e2⟩ := rC_in g4 h4
        subst e1 e2
        have g6 := g5.1 rfl
        rw [h5] at g6
        simp only [Option.some.injEq] at g6
        subst g6
        exact b2 hz1 ⟨q, x, h6, h9⟩
  unfold w_M_written
  refine ⟨fun k => one (lit 2 1 rfl k), fun k1 => ⟨fun k => one (lit 3 1 rfl k), fun k2 => ⟨fun k3 => ⟨fun k => four (lit 12 4 rfl k), fun k4 => ⟨fun k => four (lit 13 4 rfl k), fun k5 => ⟨fun k => four (lit 16 4 rfl k), fun k6 => ⟨fun k => L92 k1 k2 k3 k4 k5 k6 (.inl k), fun k => ⟨fun k7 => L92 k1 k2 k3 k4 k5 k6 (.inr k7), fun k7 => four ?_⟩⟩⟩⟩⟩, fun k => one (lit 4 1 rfl k)⟩⟩⟩
  rw [z_lt, hx] at k k7
  simp only [Int32.reduceToInt] at k k7
  exact wk_sh_l (by omega) (by omega)
end RF5
