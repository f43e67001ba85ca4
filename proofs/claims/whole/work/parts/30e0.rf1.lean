-- equality, reading: which fault, and where (the reference)
/-- what reading does to code and place: a fault stays, a new one is Fl -/
def fkd (v v' : Nat → Int32) (Fl : Nat × Nat) : Prop := (v 17 ≠ 0 → v' 17 = v 17 ∧ v' 18 = v 18) ∧ (v 17 = 0 → v' 17 ≠ 0 → (v' 17).toInt = Fl.1 ∧ (v' 18).toInt + (v 14).toInt = Fl.2)
def bs_ (v : Nat → Int32) (e : Nat) : Prop := 0 ≤ (v 14).toInt ∧ (v 14).toInt ≤ 1000000 ∧ e ≤ 1000000
def SpF {ρ : Type} (h : xb_H) (F : Nat → Nat → Int32) (mm : Nat) (v : Nat → Int32) (p e : Nat) (R : Nat → ρ → Prop) (Fl : Nat × Nat) (Q : ρ → xb_H → Prop) : Prop :=
  ∀ (r : ρ) (v' : Nat → Int32) (p' : Nat), ro v v' p p' e → (v' 17 = 0 → R p' r) → (v 17 = 0 → (∃ q x, R q x ∧ q ≤ e) → v' 17 = 0) → fkd v v' Fl → Q r (mH h F mm v')
def SpF0 (h : xb_H) (F : Nat → Nat → Int32) (mm : Nat) (v : Nat → Int32) (p e : Nat) (R : Nat → Prop) (Fl : Nat × Nat) (Q : xb_H → Prop) : Prop :=
  ∀ (v' : Nat → Int32) (p' : Nat), ro v v' p p' e → (v' 17 = 0 → R p') → (v 17 = 0 → (∃ q, R q ∧ q ≤ e) → v' 17 = 0) → fkd v v' Fl → Q (mH h F mm v')
/-- the fault of a count -/
def fdc (cb : Nat → Int32) (e : Nat) : Nat → Nat → Int32 → Nat × Nat
  | 0, _, _ => (0, 0)
  | m + 1, p, k => if e ≤ p then (2, e) else if k = 4 ∧ ¬ ub cb p ≤ 15 then (3, p) else fdc cb e m (p + 1) (k + 1)
def fC (cb : Nat → Int32) (e p : Nat) : Nat × Nat := fdc cb e 5 p 0
/-- a byte that must be a value type, or between two others -/
def fVT (e p : Nat) : Nat × Nat := if e ≤ p then (2, e) else (5, p)
section RF1
variable {h : xb_H} {F : Nat → Nat → Int32} {mm st N b e p p' q : Nat} {cb v v' v2 : Nat → Int32} {Fl Fl2 : Nat × Nat}
theorem fkd.rf : fkd v v Fl := ⟨fun _ => ⟨rfl, rfl⟩, fun h1 h2 => absurd h1 h2⟩
theorem fkd.sy (h1 : fkd v v' Fl) (hn : v' 17 ≠ 0) (h2 : fkd v' v2 Fl2) : fkd v v2 Fl := by
  obtain ⟨a1, a2⟩ := h1
  obtain ⟨b1, b2⟩ := h2.1 hn
  exact ⟨fun h9 => by rw [b1, b2]; exact a1 h9, fun h9 _ => by rw [b1, b2]; exact a2 h9 hn⟩
theorem fkd.go (h1 : fkd v v' Fl) (hz : v' 17 = 0) (he : v' 14 = v 14) (h2 : fkd v' v2 Fl2) : fkd v v2 Fl2 := by
  have z : v 17 = 0 := Classical.byContradiction fun h9 => h9 (by rw [← (h1.1 h9).1]; exact hz)
  exact ⟨fun h9 => absurd z h9, fun _ h8 => by rw [← he]; exact h2.2 hz h8⟩
theorem fkd.eq (h1 : v' 17 = v 17) (h2 : v' 18 = v 18) : fkd v v' Fl := ⟨fun _ => ⟨h1, h2⟩, fun h3 h4 => absurd (h1.trans h3) h4⟩
theorem ro.bs (h1 : ro v v' p p' e) (hb : bs_ v q) : bs_ v' q := by
  unfold bs_
  rw [h1.1 14 (by decide) (by decide) (by decide)]
  exact hb
theorem ro.e14 (h1 : ro v v' p p' e) : v' 14 = v 14 := h1.1 14 (by decide) (by decide) (by decide)
/-- failing here, at x -/
theorem f_fail {c x : Int32} {w : Nat} {Qr : xb_H → Prop} (hk : xb_k h mm = 9) (hp : rdP v b p e) (hb : bs_ v e) (hc : c ≠ 0) (hx : x.toInt = w) (hw : w ≤ 1000000) (hF : c.toInt = Fl.1 ∧ w = Fl.2) (hQ : ∀ v' : Nat → Int32, ro v v' p p e → v' 17 ≠ 0 → fkd v v' Fl → Qr (mH h F mm v')) : w_M_fail mm c x (mH h F mm v) Qr := by
  have ro' : ∀ v' : Nat → Int32, (∀ j, j ≠ 17 → j ≠ 18 → v' j = v j) → v' 17 ≠ 0 → ro v v' p p e := fun v' h1 h2 => ⟨fun j _ h4 h5 => h1 j h4 h5, by rw [h1 15 (by decide) (by decide)]; exact hp.1, Nat.le_refl p, hp.2.2.2, fun _ => h2⟩
  unfold w_M_fail w_M_fail_L22
  refine ⟨hk, ?_, ?_⟩
  · rw [mH_i]
    exact fun hn => hQ v (ro' v (fun _ _ _ => rfl) hn) hn fkd.rf
  · rw [mH_i]
    intro z h3 e3 h4 e4
    subst e3
    rw [mH_I] at e4
    subst e4
    rw [mH_i, mH_I]
    have n17 : va_up (va_up v 17 c) 18 (x - va_up v 17 c 14) 17 ≠ 0 := by
      rw [xh_up, if_neg (by decide), xh_up, if_pos rfl]
      exact hc
    refine hQ _ (ro' _ (fun j h1 h2 => ?_) n17) n17 ⟨fun h9 => absurd z h9, fun _ _ => ⟨?_, ?_⟩⟩
    · rw [xh_up, if_neg h2, xh_up, if_neg h1]
    · rw [xh_up, if_neg (by decide), xh_up, if_pos rfl]
      exact hF.1
    · obtain ⟨b1, b2, b3⟩ := hb
      rw [xh_up, if_pos rfl, xh_up, if_neg (by decide), z_sub, hx, ← hF.2]
      omega
theorem f_next {Qr : Int32 → xb_H → Prop} (hs : rdH mm st N b e cb h F) (hp : rdP v b p e) (hb : bs_ v e) (hQ : SpF h F mm v p e (fun q r => q = p + 1 ∧ r = ub cb p) (2, e) Qr) : w_M_next mm (mH h F mm v) Qr := by
  obtain ⟨s1, s2, s3, s4, s5, s6, s7, s8⟩ := id hs
  obtain ⟨p1, p2, p3, p4⟩ := id hp
  unfold w_M_next
  rw [mH_i]
  refine ⟨s1, fun hl => ⟨st, s2, s3, ?_, fun v6 e6 h7 e7 => ?_⟩, fun hl => f_fail (Fl := (2, e)) s1 hp hb (by decide) p2 hb.2.2 ⟨rfl, rfl⟩ (fun v' g1 g2 g3 _ => hQ 0 v' p g1 (fun h9 => absurd h9 g2) (fun _ ⟨q, x, ⟨h9, _⟩, h8⟩ => ?_) g3)⟩
  · rw [z_lt, p1, p2] at hl
    rw [z_in, p1]
    show _ ∧ (p : Int) < xb_n h st
    omega
  · rw [z_lt, p1, p2] at hl
    rw [mH_I] at e7
    rw [mH_o s6, z_cl, p1] at e6
    subst e7
    refine hQ v6 _ (p + 1) ⟨fun j h1 _ _ => by rw [xh_up, if_neg h1], ?_, by omega, by omega, fun h9 => by rw [xh_up, if_neg (by omega)]; exact h9⟩ (fun _ => ⟨rfl, ?_⟩) (fun h9 _ => by rw [xh_up, if_neg (by omega)]; exact h9) (fkd.eq (by rw [xh_up, if_neg (by decide)]) (by rw [xh_up, if_neg (by decide)]))
    · rw [xh_up, if_pos rfl]
      exact z_inc p1 (by omega)
    · rw [e6]
      unfold ub
      rw [← s8 p p3 (by omega)]
      rfl
  · rw [z_lt, p1, p2] at hl
    omega
/-- a byte was read: it lies before the end -/
theorem sub1 {x : Int32} {p : Nat} (h : x.toInt = (p + 1 : Nat)) : (x - 1).toInt = p := by
  rw [z_sub, h, show (1 : Int32).toInt = 1 from rfl]
  have := z_rg x
  omega
theorem f_valueType {Qr : xb_H → Prop} (hs : rdH mm st N b e cb h F) (hp : rdP v b p e) (hb : bs_ v e) (hQ : SpF0 h F mm v p e (fun q => q = p + 1 ∧ ¬ ub cb p < 124 ∧ ¬ 127 < ub cb p) (fVT e p) Qr) : w_M_valueType mm (mH h F mm v) Qr := by
  unfold w_M_valueType w_M_valueType_L30
  refine ⟨hs.1, f_next hs hp hb (fun r v1 p1 o1 f1 b1 k1 _ => ?_)⟩
  rw [mH_i]
  refine ⟨fun hn => hQ v1 p1 o1 (fun h9 => absurd h9 hn) (fun h0 ⟨q, ⟨h8, h7⟩, h9⟩ => b1 h0 ⟨q, _, ⟨h8, rfl⟩, h9⟩) ?_, fun hz => m_isType (fun r6 h6 _ => ⟨fun hn => ?_, fun h0 => ?_⟩)⟩
  · rcases Nat.lt_or_ge p e with h9 | h9
    · have : v 17 ≠ 0 := fun h8 => hn (b1 h8 ⟨p + 1, _, ⟨rfl, rfl⟩, h9⟩)
      exact ⟨fun _ => k1.1 this, fun h8 => absurd h8 this⟩
    · unfold fVT
      rw [if_pos h9]
      exact k1
  · obtain ⟨f2, f3⟩ := f1 hz
    rcases h6 with h6 | h6
    · exact absurd h6.1 hn
    · rw [f3] at h6
      exact hQ v1 p1 o1 (fun _ => ⟨f2, h6.2⟩) (fun _ _ => hz) (k1.go hz o1.e14 fkd.rf)
  · rw [mH_i]
    obtain ⟨f2, f3⟩ := f1 hz
    have pe : ¬ e ≤ p := by
      have := o1.2.2.2.1
      omega
    refine f_fail (Fl := fVT e p) hs.1 (o1.P hp) (o1.bs hb) (by decide) (sub1 (p := p) (by rw [o1.2.1, f2])) (by have := hb.2.2; omega) (by unfold fVT; rw [if_neg pe]; exact ⟨rfl, rfl⟩) (fun v' g1 g2 g3 _ => hQ v' p1 (o1.tr g1) (fun h9 => absurd h9 g2) (fun _ ⟨q, ⟨h8, h7⟩, h9⟩ => ?_) (k1.go hz o1.e14 g3))
    rcases h6 with h6 | h6
    · rw [f3] at h6
      exact absurd h7 h6.2
    · rw [h6.1] at h0
      exact absurd h0 (by decide)
theorem f_wanted {x1 x2 : Int32} {Qr : xb_H → Prop} (hs : rdH mm st N b e cb h F) (hp : rdP v b p e) (hb : bs_ v e) (hQ : SpF0 h F mm v p e (fun q => q = p + 1 ∧ ¬ ub cb p < x1 ∧ ub cb p ≤ x2) (fVT e p) Qr) : w_M_wanted mm x1 x2 (mH h F mm v) Qr := by
  unfold w_M_wanted w_M_wanted_L33
  refine ⟨hs.1, f_next hs hp hb (fun r v1 p1 o1 f1 b1 k1 _ => ?_)⟩
  rw [mH_i]
  refine ⟨fun hn => hQ v1 p1 o1 (fun h9 => absurd h9 hn) (fun h0 ⟨q, ⟨h8, h7⟩, h9⟩ => b1 h0 ⟨q, _, ⟨h8, rfl⟩, h9⟩) ?_, fun hz => ?_⟩
  · rcases Nat.lt_or_ge p e with h9 | h9
    · have : v 17 ≠ 0 := fun h8 => hn (b1 h8 ⟨p + 1, _, ⟨rfl, rfl⟩, h9⟩)
      exact ⟨fun _ => k1.1 this, fun h8 => absurd h8 this⟩
    · unfold fVT
      rw [if_pos h9]
      exact k1
  obtain ⟨f2, f3⟩ := f1 hz
  subst f3
  have pe : ¬ e ≤ p := by
    have := o1.2.2.2.1
    omega
  have bad : ¬ (¬ ub cb p < x1 ∧ ub cb p ≤ x2) → w_M_wanted_L22 Qr mm (mH h F mm v1) := fun hb2 => by
    unfold w_M_wanted_L22 w_M_wanted_L33
    rw [mH_i]
    exact ⟨hs.1, f_fail (Fl := fVT e p) hs.1 (o1.P hp) (o1.bs hb) (by decide) (sub1 (p := p) (by rw [o1.2.1, f2])) (by have := hb.2.2; omega) (by unfold fVT; rw [if_neg pe]; exact ⟨rfl, rfl⟩) (fun v' g1 g2 g3 _ => hQ v' p1 (o1.tr g1) (fun h9 => absurd h9 g2) (fun _ ⟨q, ⟨h8, h7⟩, h9⟩ => absurd h7 hb2) (k1.go hz o1.e14 g3))⟩
  exact ⟨fun h1 => bad (fun h9 => h9.1 h1), fun h1 => ⟨fun h2 => hQ v1 p1 o1 (fun _ => ⟨f2, h1, h2⟩) (fun _ _ => hz) (k1.go hz o1.e14 fkd.rf), fun h2 => bad (fun h9 => h2 h9.2)⟩⟩
end RF1
