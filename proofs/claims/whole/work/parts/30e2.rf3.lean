-- equality, reading: faults of names, of what is skipped (the reference)
/-- the fault of characters from a on -/
noncomputable def fUt (cb : Nat → Int32) (stop : Nat) : Nat → Nat → Nat × Nat
  | 0, _ => (0, 0)
  | m + 1, a => @ite _ (grp cb a stop) (Classical.propDecidable _) (fUt cb stop m (a + (blb (ub cb a)).toInt.toNat + 1)) (4, a)
/-- if a count is there: what follows; else its fault -/
def thC (cb : Nat → Int32) (e p : Nat) (G : Nat → Int64 → Nat × Nat) : Nat × Nat :=
  match rC cb p with
  | some (p1, n) => if p1 ≤ e then G p1 n else fC cb e p
  | none => fC cb e p
noncomputable def fN (cb : Nat → Int32) (e p : Nat) : Nat × Nat := thC cb e p (fun p1 n => if e < p1 + n.toInt.toNat then (2, e) else fUt cb (p1 + n.toInt.toNat) (n.toInt.toNat + 1) p1)
section RF3
variable {h : xb_H} {F : Nat → Nat → Int32} {mm st N b e p p' q : Nat} {cb v v' v2 : Nat → Int32} {Fl Fl2 : Nat × Nat}
theorem thC_s {G : Nat → Int64 → Nat × Nat} {p1 : Nat} {n : Int64} (h1 : rC cb p = some (p1, n)) (h2 : p1 ≤ e) : thC cb e p G = G p1 n := by
  unfold thC
  rw [h1]
  exact if_pos h2
theorem thC_n {G : Nat → Int64 → Nat × Nat} (h1 : ¬ ∃ q x, rC cb p = some (q, x) ∧ q ≤ e) : thC cb e p G = fC cb e p := by
  unfold thC
  split
  · rename_i p1 n h9
    exact if_neg (fun h8 => h1 ⟨p1, n, h9, h8⟩)
  · rfl
/-- the first part failed: its fault is the whole's -/
theorem fkd.ch (h1 : fkd v v' Fl) (hF : v 17 = 0 → v' 17 ≠ 0 → Fl2 = Fl) : fkd v v' Fl2 := ⟨h1.1, fun a1 a2 => by rw [hF a1 a2]; exact h1.2 a1 a2⟩
theorem fUt_1 {m a stop : Nat} (hg : grp cb a stop) : fUt cb stop (m + 1) a = fUt cb stop m (a + (blb (ub cb a)).toInt.toNat + 1) := by
  show @ite _ (grp cb a stop) (Classical.propDecidable _) _ _ = _
  exact if_pos hg
theorem fUt_0 {m a stop : Nat} (hg : ¬ grp cb a stop) : fUt cb stop (m + 1) a = (4, a) := by
  show @ite _ (grp cb a stop) (Classical.propDecidable _) _ _ = _
  exact if_neg hg
theorem f_nameL {Qr : xb_H → Prop} {x3 : Int32} {stop : Nat} (hs : rdH mm st N b e cb h F) (h3 : x3.toInt = stop) (he : stop ≤ e) : ∀ (m a : Nat) (v : Nat → Int32), rdP v b a e → bs_ v e → a ≤ stop → stop - a + 1 ≤ m → SpF0 h F mm v a e (fun q => q = stop ∧ ∃ k, utf cb stop k a) (fUt cb stop m a) Qr → w_M_name0_L52 Qr (m + 1) mm x3 (mH h F mm v) := by
  obtain ⟨s1, s2, s3, s4, s5, s6, s7, s8⟩ := id hs
  have dead : ∀ (m : Nat) (v' : Nat → Int32), v' 17 ≠ 0 → Qr (mH h F mm v') → w_M_name0_L52 Qr (m + 1) mm x3 (mH h F mm v') := by
    intro m v' g2 hq
    unfold w_M_name0_L52 w_M_name0_L127
    rw [mH_i]
    exact ⟨s1, fun _ => hq, fun _ => ⟨fun _ => hq, fun h9 => absurd h9 g2⟩⟩
  intro m
  induction m with
  | zero => intro a v hp hb ha hm hQ; omega
  | succ m ih =>
    intro a v hp hb ha hm hQ
    obtain ⟨p1, p2, p3, p4⟩ := id hp
    unfold w_M_name0_L52 w_M_name0_L127 w_M_name0_L124
    rw [mH_i]
    refine ⟨s1, fun hl => ?_, fun hl => ⟨fun hn => ?_, fun hz => ⟨st, s2, s3, ?_, ?_⟩⟩⟩
    · rw [z_le, p1, h3] at hl
      have ea : a = stop := by omega
      exact hQ v a (ro.rf p1 p4) (fun _ => ⟨ea, 1, .inl ea⟩) (fun h9 _ => h9) fkd.rf
    · rw [z_le, p1, h3] at hl
      exact hQ v a (ro.rf p1 p4) (fun h9 => absurd h9 hn) (fun h9 => absurd h9 hn) fkd.rf
    · rw [z_le, p1, h3] at hl
      rw [z_in, p1]
      show _ ∧ (a : Int) < xb_n h st
      omega
    · rw [z_le, p1, h3] at hl
      rw [mH_o s6, z_cl, p1, Int.toNat_natCast, s8 a p3 (by omega)]
      refine m_behindLead (fun _ => ?_)
      rw [mH_i]
      refine m_isGroup hs p1 rfl h3 p3 (by omega) he (fun r10 h10 _ => ⟨fun h0 => ?_, fun h0 h14 e14 => ?_⟩)
      · rw [mH_i]
        have hg : ¬ grp cb a stop := by
          rcases h10 with h10 | h10
          · exact h10.2
          · rw [h10.1] at h0
            exact absurd h0 (by decide)
        refine f_fail (Fl := fUt cb stop (m + 1) a) s1 hp hb (by decide) p1 (by have := hb.2.2; omega) (by rw [fUt_0 hg]; exact ⟨rfl, rfl⟩) (fun v' g1 g2 g3 _ => dead m v' g2 (hQ v' a g1 (fun h9 => absurd h9 g2) (fun _ ⟨q, ⟨e1, k, hu⟩, _⟩ => ?_) g3))
        cases k with
        | zero => exact hu.elim
        | succ k =>
          rcases hu with hu | hu
          · omega
          · exact absurd hu.2.1 hg
      · have hg : grp cb a stop := by
          rcases h10 with h10 | h10
          · exact absurd h10.1 h0
          · exact h10.2
        have hr := blb_r (ub cb a)
        have g0 := hg.1
        have g1 := hg.2.1
        obtain ⟨w, hw⟩ : ∃ w : Nat, (blb (ub cb a)).toInt = w := ⟨(blb (ub cb a)).toInt.toNat, by omega⟩
        have e1 : (v 15 + blb (ub cb a) + 1).toInt = (a + w + 1 : Nat) := z_ad1 p1 hw (by omega) (by omega)
        rw [mH_i, mH_I] at e14
        have e14' : h14 = mH h F mm (va_up v 15 (v 15 + blb (ub cb a) + 1)) := e14
        subst e14'
        have o1 : ro v (va_up v 15 (v 15 + blb (ub cb a) + 1)) a (a + w + 1) e := ⟨fun j j1 _ _ => by rw [xh_up, if_neg j1], by rw [xh_up, if_pos rfl]; exact e1, by omega, by omega, fun h9 => by rw [xh_up, if_neg (by omega)]; exact h9⟩
        have z1 : va_up v 15 (v 15 + blb (ub cb a) + 1) 17 = 0 := by rw [xh_up, if_neg (by decide)]; exact hz
        have kk : fkd v (va_up v 15 (v 15 + blb (ub cb a) + 1)) (0, 0) := fkd.eq (by rw [xh_up, if_neg (by decide)]) (by rw [xh_up, if_neg (by decide)])
        refine ih (a + w + 1) _ (o1.P hp) (o1.bs hb) (by omega) (by omega) (fun v2 p2' o2 f2 b2 k2 => hQ v2 p2' (o1.tr o2) (fun h9 => ?_) (fun h9 ⟨q, ⟨e9, k, hu⟩, h8⟩ => b2 (by rw [xh_up, if_neg (by omega)]; exact h9) ⟨q, ⟨e9, ?_⟩, h8⟩) ?_)
        · obtain ⟨f3, k, f4⟩ := f2 h9
          exact ⟨f3, k + 1, .inr ⟨by omega, hg, by rw [hw]; exact f4⟩⟩
        · cases k with
          | zero => exact hu.elim
          | succ k =>
            rcases hu with hu | hu
            · omega
            · refine ⟨k, ?_⟩
              have := hu.2.2
              rw [hw] at this
              exact this
        · rw [fUt_1 hg, hw]
          exact kk.go z1 o1.e14 k2
theorem f_name {Qr : xb_H → Prop} (hs : rdH mm st N b e cb h F) (hp : rdP v b p e) (hb : bs_ v e) (hQ : SpF0 h F mm v p e (fun q => rN cb p q) (fN cb e p) Qr) : w_M_name0 mm (mH h F mm v) Qr := by
  have s5 := hs.2.2.2.2.1
  have s7 := hs.2.2.2.2.2.2.1
  unfold w_M_name0
  refine ⟨hs.1, f_count hs hp hb (fun n v1 p1 o1 f1 b1 k1 _ => ?_)⟩
  have P1 := o1.P hp
  have ez := z_end P1 (by omega)
  have dead : ∀ v2 : Nat → Int32, ro v1 v2 p1 p1 e → v2 17 ≠ 0 → (v 17 = 0 → (∃ q, rN cb p q ∧ q ≤ e) → False) → fkd v v2 (fN cb e p) → w_M_name0_L36 Qr mm n (mH h F mm v2) := fun v2 o2 hn hf hk => by
    unfold w_M_name0_L36
    rw [mH_i]
    exact ⟨hs.1, fun h9 => absurd h9 hn, fun _ => hQ v2 p1 (o1.tr o2) (fun h9 => absurd h9 hn) (fun h0 hx => (hf h0 hx).elim) hk⟩
  rw [mH_i]
  refine ⟨fun hn => dead v1 (ro.rf o1.2.1 o1.2.2.2.1) hn (fun h0 ⟨q, ⟨a, x, h7, h6, m, hu⟩, h8⟩ => hn (b1 h0 ⟨a, x, h7, by omega⟩)) (k1.ch (fun h0 _ => thC_n (fun h9 => hn (b1 h0 h9)))), fun hz => ⟨fun hl => ?_, fun hl => ?_⟩⟩
  · have hc := f1 hz
    have hcb := rC_b hc
    have pe := o1.2.2.2.1
    rw [Z_lim, ez] at hl
    unfold w_M_name0_L36
    rw [mH_i]
    refine ⟨hs.1, fun _ v3 e3 => ⟨n.toInt.toNat + 1 + 1, ?_⟩, fun hn => absurd hz hn⟩
    have e3' : v3.toInt = (p1 + n.toInt.toNat : Nat) := by
      have e4 : (Int64.toInt32 n).toInt = n.toInt := by
        rw [z_of64]
        omega
      have := P1.2.2.2
      rw [e3, z_add, P1.1, e4]
      omega
    refine f_nameL hs e3' (by omega) _ p1 v1 P1 (o1.bs hb) (by omega) (by omega) (fun v2 p2 o2 f2 b2 k2 => hQ v2 p2 (o1.tr o2) (fun h9 => ?_) (fun _ ⟨q, ⟨a, x, h7, h6, m, hu⟩, h8⟩ => b2 hz ⟨p1 + n.toInt.toNat, ⟨rfl, ?_⟩, by omega⟩) ?_)
    · obtain ⟨f3, k, f4⟩ := f2 h9
      exact ⟨p1, n, hc, f3, k, by rw [f3]; exact f4⟩
    · rw [hc] at h7
      simp only [Option.some.injEq, Prod.mk.injEq] at h7
      obtain ⟨e8, e9⟩ := h7
      subst e8 e9
      exact ⟨m, by rw [← h6]; exact hu⟩
    · have ef : fN cb e p = fUt cb (p1 + n.toInt.toNat) (n.toInt.toNat + 1) p1 := by
        unfold fN
        rw [thC_s hc pe, if_neg (by omega)]
      rw [ef]
      exact k1.go hz o1.e14 k2
  · have hc := f1 hz
    have pe := o1.2.2.2.1
    have hcb := rC_b hc
    rw [Z_lim, ez] at hl
    have ef : fN cb e p = (2, e) := by
      unfold fN
      rw [thC_s hc pe, if_pos (by omega)]
    refine f_fail (Fl := fN cb e p) hs.1 P1 (o1.bs hb) (by decide) P1.2.1 hb.2.2 (by rw [ef]; exact ⟨rfl, rfl⟩) (fun v2 g1 g2 g3 _ => dead v2 g1 g2 (fun h0 ⟨q, ⟨a, x, h7, h6, m, hu⟩, h8⟩ => ?_) (k1.go hz o1.e14 g3))
    rw [hc] at h7
    simp only [Option.some.injEq, Prod.mk.injEq] at h7
    obtain ⟨e8, e9⟩ := h7
    subst e8 e9
    omega
theorem f_skip {x : Int64} {Qr : xb_H → Prop} (hs : rdH mm st N b e cb h F) (hp : rdP v b p e) (hb : bs_ v e) (hx : v 17 = 0 → 0 ≤ x.toInt ∧ x.toInt < 4294967296) (hQ : SpF0 h F mm v p e (fun q => q = p + x.toInt.toNat) (2, e) Qr) : w_M_skip mm x (mH h F mm v) Qr := by
  have s5 := hs.2.2.2.2.1
  have s7 := hs.2.2.2.2.2.2.1
  have p4 := hp.2.2.2
  have ez := z_end hp (by omega)
  have L : ∀ (v2 : Nat → Int32), ro v v2 p p e → (v2 17 = 0 → v2 = v ∧ (p : Int) + x.toInt ≤ e) → (v 17 = 0 → (∃ q, q = p + x.toInt.toNat ∧ q ≤ e) → v2 17 = 0) → fkd v v2 (2, e) → w_M_skip_L31 Qr mm x (mH h F mm v2) := by
    intro v2 o2 g1 g2 k2
    have kk : ∀ w : Int32, fkd v2 (va_up v2 15 w) (2, e) := fun w => fkd.eq (by rw [xh_up, if_neg (by decide)]) (by rw [xh_up, if_neg (by decide)])
    unfold w_M_skip_L31 w_M_skip_L53
    rw [mH_i]
    refine ⟨hs.1, fun hn => ⟨hs.1, fun h2 e2 => ?_⟩, fun hz => ⟨hs.1, fun h2 e2 => ?_⟩⟩
    · rw [mH_I] at e2
      subst e2
      refine hQ _ p ⟨fun j j1 j2 j3 => by rw [xh_up, if_neg j1]; exact o2.1 j j1 j2 j3, by rw [xh_up, if_pos rfl]; exact o2.2.1, Nat.le_refl p, p4, fun _ => by rw [xh_up, if_neg (by omega)]; exact hn⟩ (fun h9 => ?_) (fun h0 hx => by rw [xh_up, if_neg (by omega)]; exact g2 h0 hx) (k2.sy hn (kk _))
      rw [xh_up, if_neg (by omega)] at h9
      exact absurd h9 hn
    · rw [mH_I] at e2
      subst e2
      obtain ⟨g3, g4⟩ := g1 hz
      subst g3
      obtain ⟨x1, x2⟩ := hx hz
      have e4 : (Int64.toInt32 x).toInt = x.toInt := by
        rw [z_of64]
        omega
      have e5 : (v2 15 + Int64.toInt32 x).toInt = (p + x.toInt.toNat : Nat) := by
        rw [z_add, hp.1, e4]
        omega
      exact hQ _ (p + x.toInt.toNat) ⟨fun j j1 j2 j3 => by rw [xh_up, if_neg j1], by rw [xh_up, if_pos rfl]; exact e5, by omega, by omega, fun h9 => absurd hz h9⟩ (fun _ => rfl) (fun _ _ => by rw [xh_up, if_neg (by omega)]; exact hz) (kk _)
  unfold w_M_skip
  rw [mH_i]
  refine ⟨hs.1, fun hn => L v (ro.rf hp.1 p4) (fun h9 => absurd h9 hn) (fun h9 => absurd h9 hn) fkd.rf, fun hz => ⟨fun hl => L v (ro.rf hp.1 p4) (fun _ => ⟨rfl, ?_⟩) (fun _ _ => hz) fkd.rf, fun hl => f_fail (Fl := (2, e)) hs.1 hp hb (by decide) hp.2.1 hb.2.2 ⟨rfl, rfl⟩ (fun v' g1 g2 g3 _ => L v' g1 (fun h9 => absurd h9 g2) (fun _ ⟨q, e9, h8⟩ => ?_) g3)⟩⟩
  · rw [Z_lim, ez] at hl
    omega
  · obtain ⟨x1, x2⟩ := hx hz
    rw [Z_lim, ez] at hl
    omega
end RF3
