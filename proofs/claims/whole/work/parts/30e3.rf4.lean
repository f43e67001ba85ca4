-- equality, reading: faults of signed numbers and of rows (the reference)
/-- the fault of a signed number -/
def fds (cb : Nat → Int32) (e : Nat) (bits : Int32) : Nat → Nat → Nat × Nat
  | 0, _ => (0, 0)
  | m + 1, p => if e ≤ p then (2, e) else if m = 0 ∧ ¬ ((bits = 32 ∧ (ub cb p < 8 ∨ (¬ ub cb p < 120 ∧ ¬ 128 ≤ ub cb p))) ∨ (¬ bits = 32 ∧ (ub cb p = 0 ∨ ub cb p = 127))) then (3, p) else fds cb e bits m (p + 1)
/-- the fault of a row's entries, counts (x1 = 0) or types; the first that fails -/
def fRow (cb : Nat → Int32) (e : Nat) (x1 : Int32) : Nat → Nat → Nat × Nat
  | 0, _ => (0, 0)
  | m + 1, p => if x1 = 0 then thC cb e p (fun p1 _ => fRow cb e x1 m p1) else if p < e ∧ ¬ ub cb p < 124 ∧ ¬ 127 < ub cb p then fRow cb e x1 m (p + 1) else fVT e p
section RF4
variable {h : xb_H} {F : Nat → Nat → Int32} {mm st N b e p p' q : Nat} {cb v v' v2 : Nat → Int32} {Fl Fl2 : Nat × Nat}
theorem fRow_c {x1 : Int32} {m p1 : Nat} {n : Int64} (hx : x1 = 0) (hc : rC cb p = some (p1, n)) (pe : p1 ≤ e) : fRow cb e x1 (m + 1) p = fRow cb e x1 m p1 := by
  conv => lhs; unfold fRow
  rw [if_pos hx, thC_s hc pe]
theorem fRow_cn {x1 : Int32} {m : Nat} (hx : x1 = 0) (h1 : ¬ ∃ q x, rC cb p = some (q, x) ∧ q ≤ e) : fRow cb e x1 (m + 1) p = fC cb e p := by
  unfold fRow
  rw [if_pos hx, thC_n h1]
theorem fRow_t {x1 : Int32} {m p1 : Nat} (hx : ¬ x1 = 0) (h1 : p1 = p + 1) (h2 : ¬ ub cb p < 124 ∧ ¬ 127 < ub cb p) (pe : p1 ≤ e) : fRow cb e x1 (m + 1) p = fRow cb e x1 m p1 := by
  conv => lhs; unfold fRow
  rw [if_neg hx, if_pos ⟨by omega, h2⟩, h1]
theorem fRow_tn {x1 : Int32} {m : Nat} (hx : ¬ x1 = 0) (h1 : ¬ ∃ q, (q = p + 1 ∧ ¬ ub cb p < 124 ∧ ¬ 127 < ub cb p) ∧ q ≤ e) : fRow cb e x1 (m + 1) p = fVT e p := by
  unfold fRow
  rw [if_neg hx, if_neg (fun h9 => h1 ⟨p + 1, ⟨rfl, h9.2⟩, h9.1⟩)]
theorem f_signedL {Qr : Int64 → xb_H → Prop} {x1 x4 : Int32} (hs : rdH mm st N b e cb h F) : ∀ (m : Nat) (x2 : Int64) (x5 : Int32) (v : Nat → Int32) (p : Nat), x4.toInt = x5.toInt + m → 0 ≤ x5.toInt → x4.toInt ≤ 9 → rdP v b p e → bs_ v e → SpF h F mm v p e (fun q _ => rds cb x1 (m + 1) p = some q) (fds cb e x1 (m + 1) p) Qr → w_M_signed_L19 Qr (m + 1) mm x1 x2 x4 x5 (mH h F mm v) := by
  intro m
  induction m with
  | zero =>
    intro x2 x5 v p e1 e2 e3 hp hb hQ
    unfold w_M_signed_L19
    refine ⟨fun h9 => ?_, fun h9 => ⟨hs.1, f_next hs hp hb (fun r v1 p1 o1 f1 b1 k1 _ => ?_)⟩⟩
    · rw [z_lt] at h9
      omega
    · have L112 : ∀ v2 : Nat → Int32, ro v1 v2 p1 p1 e → (v2 17 = 0 → v2 = v1 ∧ rds cb x1 1 p = some p1 ∧ ¬ 128 ≤ r) → (v 17 = 0 → (∃ q, rds cb x1 1 p = some q ∧ q ≤ e) → v2 17 = 0) → fkd v v2 (fds cb e x1 1 p) → w_M_signed_L112 (w_M_signed_L19 Qr 0) Qr mm x1 x2 x4 x5 r (mH h F mm v2) := by
        intro v2 o2 g1 g2 k2
        have fin : ∀ z, v2 17 = 0 → Qr z (mH h F mm v2) := fun z hz => hQ z v2 p1 (o1.tr o2) (fun _ => (g1 hz).2.1) (fun _ _ => hz) k2
        unfold w_M_signed_L112 w_M_signed_L163 w_M_signed_L164 w_M_signed_L188 w_M_signed_L202
        rw [mH_i]
        exact ⟨hs.1, fun hz v3 _ => ⟨fun h8 => absurd h8 (g1 hz).2.2, fun _ => ⟨fun _ => ⟨fun _ => ⟨fun _ => fin _ hz, fun _ => fin _ hz⟩, fun h0 => absurd rfl h0⟩, fun _ => ⟨fun _ => ⟨fun _ => ⟨fun _ => fin _ hz, fun _ => fin _ hz⟩, fun h0 => absurd rfl h0⟩, fun _ => ⟨fun h0 => absurd h0 (by decide), fun _ => ⟨fun _ => fin _ hz, fun _ => fin _ hz⟩⟩⟩⟩⟩, fun hn => hQ 0 v2 p1 (o1.tr o2) (fun h9 => absurd h9 hn) (fun h0 ⟨q, _, hx⟩ => g2 h0 ⟨q, hx⟩) k2⟩
      have S : ∀ y0 : Int32, (y0 = 0 → ¬ ((x1 = 32 ∧ (r < 8 ∨ (¬ r < 120 ∧ ¬ 128 ≤ r))) ∨ (¬ x1 = 32 ∧ (r = 0 ∨ r = 127)))) → (y0 ≠ 0 → ((x1 = 32 ∧ (r < 8 ∨ (¬ r < 120 ∧ ¬ 128 ≤ r))) ∨ (¬ x1 = 32 ∧ (r = 0 ∨ r = 127)))) → w_M_signed_L87 (w_M_signed_L19 Qr 0) Qr mm x1 x2 x4 x5 r y0 (mH h F mm v1) := by
        intro y0 g1 g2
        unfold w_M_signed_L87
        rw [mH_i]
        refine ⟨hs.1, fun hn => L112 v1 (ro.rf o1.2.1 o1.2.2.2.1) (fun h9 => absurd h9 hn) (fun h0 ⟨q, h7, h8⟩ => b1 h0 ⟨p + 1, _, ⟨rfl, rfl⟩, by have := (rds_b h7).1; omega⟩) (fk_n (p := p) k1 (fun h8 h7 => b1 h8 ⟨p + 1, _, ⟨rfl, rfl⟩, h7⟩) hn (fun h9 => by unfold fds; rw [if_pos h9])), fun hz => ⟨fun hy => ?_, fun hy => ?_⟩⟩
        · obtain ⟨f2, f3⟩ := f1 hz
          have g5 := g2 hy
          have h128 : ¬ 128 ≤ r := by
            simp only [z_le, z_lt, z_eq, Int32.reduceToInt] at g5 ⊢
            omega
          refine L112 v1 (ro.rf o1.2.1 o1.2.2.2.1) (fun _ => ⟨rfl, ?_, h128⟩) (fun _ _ => hz) (k1.go hz o1.e14 fkd.rf)
          unfold rds
          rw [← f3, if_neg (fun h9 => h9.2 g5), if_neg h128, f2]
        · obtain ⟨f2, f3⟩ := f1 hz
          have pe : ¬ e ≤ p := by
            have := o1.2.2.2.1
            omega
          refine f_fail (Fl := fds cb e x1 1 p) hs.1 (o1.P hp) (o1.bs hb) (by decide) (sub1 (p := p) (by rw [o1.2.1, f2])) (by have := hb.2.2; omega) (by unfold fds; rw [if_neg pe, ← f3, if_pos ⟨rfl, g1 hy⟩]; exact ⟨rfl, rfl⟩) (fun v' g3 g4 g5 _ => L112 v' g3 (fun h9 => absurd h9 g4) (fun h0 ⟨q, h7, h8⟩ => ?_) (k1.go hz o1.e14 g5))
          unfold rds at h7
          rw [← f3, if_pos ⟨rfl, g1 hy⟩] at h7
          cases h7
      have yes : ((x1 = 32 ∧ (r < 8 ∨ (¬ r < 120 ∧ ¬ 128 ≤ r))) ∨ (¬ x1 = 32 ∧ (r = 0 ∨ r = 127))) → w_M_signed_L82 (w_M_signed_L19 Qr 0) Qr mm x1 x2 x4 x5 r (mH h F mm v1) := fun g => by
        unfold w_M_signed_L82
        exact S 1 (fun h9 => absurd h9 (by decide)) (fun _ => g)
      have no : ¬ ((x1 = 32 ∧ (r < 8 ∨ (¬ r < 120 ∧ ¬ 128 ≤ r))) ∨ (¬ x1 = 32 ∧ (r = 0 ∨ r = 127))) → w_M_signed_L86 (w_M_signed_L19 Qr 0) Qr mm x1 x2 x4 x5 r (mH h F mm v1) := fun g => by
        unfold w_M_signed_L86
        exact S 0 (fun _ => g) (fun h9 => absurd rfl h9)
      refine ⟨fun h8 => ?_, fun _ => ⟨fun j1 => ⟨fun j2 => yes (.inr ⟨j1, .inl j2⟩), fun j2 => ⟨fun j3 => no (fun h => h.elim (fun h => j1 h.1) (fun h => h.2.elim j2 j3)), fun j3 => yes (.inr ⟨j1, .inr j3⟩)⟩⟩, fun j1 => ⟨fun j2 => yes (.inl ⟨j1, .inl j2⟩), fun j2 => ⟨fun j3 => no (fun h => h.elim (fun h => h.2.elim j2 (fun h => h.1 j3)) (fun h => h.1 j1)), fun j3 => ⟨fun j4 => no (fun h => h.elim (fun h => h.2.elim j2 (fun h => h.2 j4)) (fun h => h.1 j1)), fun j4 => yes (.inl ⟨j1, .inr ⟨j3, j4⟩⟩)⟩⟩⟩⟩⟩
      rw [z_lt] at h8
      omega
  | succ m ih =>
    intro x2 x5 v p e1 e2 e3 hp hb hQ
    unfold w_M_signed_L19
    refine ⟨fun h9 => ?_, fun h9 => ⟨hs.1, f_next hs hp hb (fun r v1 p1 o1 f1 b1 k1 _ => ?_)⟩⟩
    · rw [z_lt] at h9
      omega
    · refine ⟨fun _ => ?_, fun h8 => ?_⟩
      · have hr : v1 17 = 0 → (128 ≤ r → rds cb x1 (m + 1 + 1) p = rds cb x1 (m + 1) p1) ∧ (¬ 128 ≤ r → rds cb x1 (m + 1 + 1) p = some p1) := fun hz => by
          obtain ⟨f2, f3⟩ := f1 hz
          rw [f3, f2]
          constructor
          · intro h128
            conv => lhs; unfold rds
            rw [if_neg (fun h9 => by omega), if_pos h128]
          · intro h128
            unfold rds
            rw [if_neg (fun h9 => by omega), if_neg h128]
        have fin : ∀ z, v1 17 = 0 → ¬ 128 ≤ r → Qr z (mH h F mm v1) := fun z hz h8 => hQ z v1 p1 o1 (fun _ => (hr hz).2 h8) (fun _ _ => hz) (k1.go hz o1.e14 fkd.rf)
        have L112 : w_M_signed_L112 (w_M_signed_L19 Qr (m + 1)) Qr mm x1 x2 x4 x5 r (mH h F mm v1) := by
          unfold w_M_signed_L112 w_M_signed_L163 w_M_signed_L164 w_M_signed_L188 w_M_signed_L202
          rw [mH_i]
          refine ⟨hs.1, fun hz v3 _ => ⟨fun h8 => ?_, fun h8 => ⟨fun _ => ⟨fun _ => ⟨fun _ => fin _ hz h8, fun _ => fin _ hz h8⟩, fun h0 => absurd rfl h0⟩, fun _ => ⟨fun _ => ⟨fun _ => ⟨fun _ => fin _ hz h8, fun _ => fin _ hz h8⟩, fun h0 => absurd rfl h0⟩, fun _ => ⟨fun h0 => absurd h0 (by decide), fun _ => ⟨fun _ => fin _ hz h8, fun _ => fin _ hz h8⟩⟩⟩⟩⟩, fun hn => hQ 0 v1 p1 o1 (fun h9 => absurd h9 hn) (fun h0 ⟨q, _, h7, h8⟩ => b1 h0 ⟨p + 1, _, ⟨rfl, rfl⟩, by have := (rds_b h7).1; omega⟩) (fk_n (p := p) k1 (fun h8 h7 => b1 h8 ⟨p + 1, _, ⟨rfl, rfl⟩, h7⟩) hn (fun h9 => by unfold fds; rw [if_pos h9]))⟩
          have e5 : (x5 + 1).toInt = x5.toInt + 1 := by
            rw [z_add]
            simp only [Int32.reduceToInt]
            omega
          have f12 := (f1 hz).1
          have pe : ¬ e ≤ p := by
            have := o1.2.2.2.1
            omega
          have hf : fds cb e x1 (m + 1 + 1) p = fds cb e x1 (m + 1) p1 := by
            conv => lhs; unfold fds
            rw [if_neg pe, if_neg (fun h9 => by omega), f12]
          refine ih v3 (x5 + 1) v1 p1 (by omega) (by omega) e3 (o1.P hp) (o1.bs hb) (fun z v2 p2 o2 f2 b2 k2 => hQ z v2 p2 (o1.tr o2) (fun h9 => by rw [(hr hz).1 h8]; exact f2 h9) (fun _ ⟨q, x, h7, h6⟩ => b2 hz ⟨q, x, by rw [(hr hz).1 h8] at h7; exact h7, h6⟩) (by rw [hf]; exact k1.go hz o1.e14 k2))
        unfold w_M_signed_L82 w_M_signed_L87
        rw [mH_i]
        exact ⟨hs.1, fun _ => L112, fun _ => ⟨fun _ => L112, fun h0 => absurd h0 (by decide)⟩⟩
      · rw [z_lt] at h8
        omega
theorem f_signed {x1 : Int32} {Qr : Int64 → xb_H → Prop} (hx : x1 = 32 ∨ x1 = 64) (hs : rdH mm st N b e cb h F) (hp : rdP v b p e) (hb : bs_ v e) (hQ : SpF h F mm v p e (fun q _ => rds cb x1 (if x1 = 32 then 5 else 10) p = some q) (fds cb e x1 (if x1 = 32 then 5 else 10) p) Qr) : w_M_signed mm x1 (mH h F mm v) Qr := by
  unfold w_M_signed w_M_signed_L14
  refine ⟨fun k => ⟨9 + 1, f_signedL hs 9 0 0 v p rfl (by decide) (by decide) hp hb (by rw [if_neg k] at hQ; exact hQ)⟩, fun k => ⟨4 + 1, f_signedL hs 4 0 0 v p rfl (by decide) (by decide) hp hb (by rw [if_pos k] at hQ; exact hQ)⟩⟩
theorem f_rowL {Qr : xb_H → Prop} {x1 : Int32} {x2 : Int64} {L : Nat} (hs : rdH mm st N b e cb h F) (h2 : x2.toInt = L) (hL : L < 4294967296) : ∀ (m k : Nat) (x4 : Int64) (v : Nat → Int32) (p : Nat), x4.toInt = k → rdP v b p e → bs_ v e → e - p + 1 ≤ m → (v 17 = 0 → k ≤ L) → SpF0 h F mm v p e (fun q => rRow cb x1 (L - k) p q) (fRow cb e x1 m p) Qr → w_M_row_L8 Qr (m + 1) mm x1 x2 x4 (mH h F mm v) := by
  have dead : ∀ (m : Nat) (x4 : Int64) (v' : Nat → Int32), v' 17 ≠ 0 → Qr (mH h F mm v') → w_M_row_L8 Qr (m + 1) mm x1 x2 x4 (mH h F mm v') := by
    intro m x4 v' g2 hq
    unfold w_M_row_L8 w_M_row_L47
    rw [mH_i]
    exact ⟨fun _ => hq, fun _ => ⟨hs.1, fun _ => hq, fun h9 => absurd h9 g2⟩⟩
  intro m
  induction m with
  | zero => intro k x4 v p _ _ _ hm; omega
  | succ m ih =>
    intro k x4 v p h4 hp hb hm hk hQ
    by_cases hz : v 17 = 0
    · have hk' := hk hz
      unfold w_M_row_L8 w_M_row_L47 w_M_row_L38
      rw [mH_i]
      refine ⟨fun hl => ?_, fun hl => ⟨hs.1, fun hn => absurd hz hn, fun _ => ⟨fun hx => ?_, fun hx => ?_⟩⟩⟩
      · rw [Z_le, h2, h4] at hl
        refine hQ v p (ro.rf hp.1 hp.2.2.2) (fun _ => ?_) (fun h9 _ => h9) fkd.rf
        rw [show L - k = 0 by omega]
        exact ⟨fun _ => rfl, fun _ => ⟨rfl, fun j j1 j2 => by omega⟩⟩
      · rw [Z_le, h2, h4] at hl
        have e4 : (x4 + 1).toInt = (k + 1 : Nat) := by
          rw [Int64.toInt_add, h4, show (1 : Int64).toInt = 1 from rfl, Int.bmod_eq_of_le (by omega) (by omega)]
          omega
        have hlk : L - k = (L - (k + 1)) + 1 := by omega
        refine f_count hs hp hb (fun r v1 p1 o1 f1 b1 k1 _ v2 e2 => ?_)
        subst e2
        by_cases hz1 : v1 17 = 0
        · have hc := f1 hz1
          have hcb := rC_b hc
          have hr : ∀ q, rRow cb x1 (L - k) p q ↔ rRow cb x1 (L - (k + 1)) p1 q := fun q => by
            unfold rRow
            rw [hlk]
            refine ⟨fun h9 => ⟨fun _ => ?_, fun h8 => absurd hx h8⟩, fun h9 => ⟨fun _ => ?_, fun h8 => absurd hx h8⟩⟩
            · have := h9.1 hx
              unfold cks at this
              rw [hc] at this
              exact this
            · unfold cks
              rw [hc]
              exact h9.1 hx
          refine ih (k + 1) _ v1 p1 e4 (o1.P hp) (o1.bs hb) (by have := o1.2.2.2.1; omega) (fun _ => by omega) (fun v2 p2 o2 f2 b2 k2 => hQ v2 p2 (o1.tr o2) (fun h9 => (hr p2).mpr (f2 h9)) (fun _ ⟨q, h7, h8⟩ => b2 hz1 ⟨q, (hr q).mp h7, h8⟩) (by rw [fRow_c hx hc o1.2.2.2.1]; exact k1.go hz1 o1.e14 k2))
        · refine dead m _ v1 hz1 (hQ v1 p1 o1 (fun h9 => absurd h9 hz1) (fun h0 ⟨q, h7, h8⟩ => ?_) (k1.ch (fun h0 _ => fRow_cn hx (fun h9 => hz1 (b1 h0 h9)))))
          have h6 := h7.1 hx
          rw [hlk] at h6
          unfold cks at h6
          split at h6
          · rename_i a c hc
            exact b1 h0 ⟨a, c, hc, by have := cks_b h6; omega⟩
          · cases h6
      · rw [Z_le, h2, h4] at hl
        have e4 : (x4 + 1).toInt = (k + 1 : Nat) := by
          rw [Int64.toInt_add, h4, show (1 : Int64).toInt = 1 from rfl, Int.bmod_eq_of_le (by omega) (by omega)]
          omega
        refine f_valueType hs hp hb (fun v1 p1 o1 f1 b1 k1 _ v2 e2 => ?_)
        subst e2
        by_cases hz1 : v1 17 = 0
        · obtain ⟨f2, f3⟩ := f1 hz1
          have f2T := f2
          have peT := o1.2.2.2.1
          have hr : ∀ q, rRow cb x1 (L - k) p q ↔ rRow cb x1 (L - (k + 1)) p1 q := fun q => by
            unfold rRow rTs
            refine ⟨fun h9 => ⟨fun h8 => absurd h8 hx, fun _ => ?_⟩, fun h9 => ⟨fun h8 => absurd h8 hx, fun _ => ?_⟩⟩
            · obtain ⟨g1, g2⟩ := h9.2 hx
              exact ⟨by omega, fun j j1 j2 => g2 j (by omega) j2⟩
            · obtain ⟨g1, g2⟩ := h9.2 hx
              refine ⟨by omega, fun j j1 j2 => ?_⟩
              rcases Nat.lt_or_ge p j with g3 | g3
              · exact g2 j (by omega) j2
              · rw [show j = p by omega]
                exact f3
          refine ih (k + 1) _ v1 p1 e4 (o1.P hp) (o1.bs hb) (by have := o1.2.2.2.1; omega) (fun _ => by omega) (fun v2 p2 o2 f2 b2 k2 => hQ v2 p2 (o1.tr o2) (fun h9 => (hr p2).mpr (f2 h9)) (fun _ ⟨q, h7, h8⟩ => b2 hz1 ⟨q, (hr q).mp h7, h8⟩) (by rw [fRow_t hx f2T f3 peT]; exact k1.go hz1 o1.e14 k2))
        · refine dead m _ v1 hz1 (hQ v1 p1 o1 (fun h9 => absurd h9 hz1) (fun h0 ⟨q, h7, h8⟩ => ?_) (k1.ch (fun h0 _ => fRow_tn hx (fun h9 => hz1 (b1 h0 h9)))))
          obtain ⟨g1, g2⟩ := h7.2 hx
          exact b1 h0 ⟨p + 1, ⟨rfl, g2 p (Nat.le_refl p) (by omega)⟩, by omega⟩
    · exact dead (m + 1) x4 v hz (hQ v p (ro.rf hp.1 hp.2.2.2) (fun h9 => absurd h9 hz) (fun h9 => absurd h9 hz) fkd.rf)
theorem f_row {x1 : Int32} {Qr : xb_H → Prop} (hs : rdH mm st N b e cb h F) (hp : rdP v b p e) (hb : bs_ v e) (hQ : SpF0 h F mm v p e (fun q => ∃ p1 L, rC cb p = some (p1, L) ∧ rRow cb x1 L.toInt.toNat p1 q) (thC cb e p (fun p1 _ => fRow cb e x1 (e - p1 + 1) p1)) Qr) : w_M_row mm x1 (mH h F mm v) Qr := by
  unfold w_M_row
  refine ⟨hs.1, f_count hs hp hb (fun r v1 p1 o1 f1 b1 k1 _ => ?_)⟩
  by_cases hz1 : v1 17 = 0
  · have hc := f1 hz1
    have hcb := rC_b hc
    refine ⟨e - p1 + 1 + 1, f_rowL (L := r.toInt.toNat) hs (by omega) (by omega) _ 0 0 v1 p1 rfl (o1.P hp) (o1.bs hb) (Nat.le_refl _) (fun _ => by omega) (fun v2 p2 o2 f2 b2 k2 => hQ v2 p2 (o1.tr o2) (fun h9 => ⟨p1, r, hc, f2 h9⟩) (fun _ ⟨q, ⟨a, c, h6, h7⟩, h8⟩ => b2 hz1 ⟨q, ?_, h8⟩) (by rw [thC_s hc o1.2.2.2.1]; exact k1.go hz1 o1.e14 k2))⟩
    rw [hc] at h6
    simp only [Option.some.injEq, Prod.mk.injEq] at h6
    rw [← h6.1, ← h6.2] at h7
    exact h7
  · refine ⟨0 + 1, ?_⟩
    have hq : Qr (mH h F mm v1) := hQ v1 p1 o1 (fun h9 => absurd h9 hz1) (fun h0 ⟨q, ⟨a, c, h6, h7⟩, h8⟩ => b1 h0 ⟨a, c, h6, by have := rRow_b h7; omega⟩) (k1.ch (fun h0 _ => thC_n (fun h9 => hz1 (b1 h0 h9))))
    unfold w_M_row_L8 w_M_row_L47
    rw [mH_i]
    exact ⟨fun _ => hq, fun _ => ⟨hs.1, fun _ => hq, fun h9 => absurd h9 hz1⟩⟩
end RF4
