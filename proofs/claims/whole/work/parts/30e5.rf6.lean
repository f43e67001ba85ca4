-- equality, reading: where it ends, or which fault (the reference)
/-- the place behind what was read, or its fault -/
abbrev Rs : Type := Except (Nat × Nat) Nat
noncomputable def mkP (R : Nat → Prop) (e : Nat) (Fl : Nat × Nat) : Rs := @dite _ (∃ q, R q ∧ q ≤ e) (Classical.propDecidable _) (fun hq => .ok (Classical.choose hq)) (fun _ => .error Fl)
def xk (v v' : Nat → Int32) (p' : Nat) (P : Rs) : Prop := (v 17 ≠ 0 → v' 17 = v 17 ∧ v' 18 = v 18) ∧ (v 17 = 0 → (P = .ok p' ∧ v' 17 = 0) ∨ (∃ Fl : Nat × Nat, P = .error Fl ∧ v' 17 ≠ 0 ∧ (v' 17).toInt = Fl.1 ∧ (v' 18).toInt + (v 14).toInt = Fl.2))
def SpX (h : xb_H) (F : Nat → Nat → Int32) (mm : Nat) (v : Nat → Int32) (p e : Nat) (P : Rs) (Q : xb_H → Prop) : Prop := ∀ (v' : Nat → Int32) (p' : Nat), ro v v' p p' e → xk v v' p' P → Q (mH h F mm v')
noncomputable def pCx (cb : Nat → Int32) (e p : Nat) : Rs := mkP (fun q => ∃ x, rC cb p = some (q, x)) e (fC cb e p)
noncomputable def pW (cb : Nat → Int32) (e : Nat) (x1 x2 : Int32) (p : Nat) : Rs := mkP (fun q => q = p + 1 ∧ ¬ ub cb p < x1 ∧ ub cb p ≤ x2) e (fVT e p)
noncomputable def pVT (cb : Nat → Int32) (e p : Nat) : Rs := mkP (fun q => q = p + 1 ∧ ¬ ub cb p < 124 ∧ ¬ 127 < ub cb p) e (fVT e p)
noncomputable def pNm (cb : Nat → Int32) (e p : Nat) : Rs := mkP (fun q => rN cb p q) e (fN cb e p)
noncomputable def pWr (cb : Nat → Int32) (e w s p : Nat) : Rs := mkP (fun q => rW cb s p q) e (fWr cb e w s p)
noncomputable def pLim (cb : Nat → Int32) (e p : Nat) : Rs := (pW cb e 0 1 p).bind (fun q => (pCx cb e q).bind (fun q1 => if ub cb p = 1 then pCx cb e q1 else .ok q1))
noncomputable def pTab (cb : Nat → Int32) (e p : Nat) : Rs := (pW cb e 112 112 p).bind (fun q => pLim cb e q)
noncomputable def pVar (cb : Nat → Int32) (e p : Nat) : Rs := (pVT cb e p).bind (fun q => pW cb e 0 1 q)
section RF6
variable {h : xb_H} {F : Nat → Nat → Int32} {mm st N b e p p' q p1 p2 : Nat} {cb v v' v1 v2 : Nat → Int32} {Fl Fl2 : Nat × Nat} {P : Rs} {G : Nat → Rs}
theorem mkP_s {R : Nat → Prop} (hR : ∀ q q', R q → R q' → q = q') (h1 : R q) (h2 : q ≤ e) : mkP R e Fl = .ok q := by
  have hx : ∃ q, R q ∧ q ≤ e := ⟨q, h1, h2⟩
  have e1 : mkP R e Fl = .ok (Classical.choose hx) := dif_pos hx
  rw [e1, hR _ _ (Classical.choose_spec hx).1 h1]
theorem mkP_n {R : Nat → Prop} (h1 : ¬ ∃ q, R q ∧ q ≤ e) : mkP R e Fl = .error Fl := dif_neg h1
theorem xk_of {R : Nat → Prop} (hR : ∀ q q', R q → R q' → q = q') (o : ro v v' p p' e) (f1 : v' 17 = 0 → R p') (b1 : v 17 = 0 → (∃ q, R q ∧ q ≤ e) → v' 17 = 0) (k : fkd v v' Fl) : xk v v' p' (mkP R e Fl) := by
  refine ⟨k.1, fun h0 => ?_⟩
  by_cases hz : v' 17 = 0
  · exact .inl ⟨mkP_s hR (f1 hz) o.2.2.2.1, hz⟩
  · exact .inr ⟨Fl, mkP_n (fun h9 => hz (b1 h0 h9)), hz, k.2 h0 hz⟩
theorem xk.tr (h1 : xk v v1 p1 P) (he : v1 14 = v 14) (h2 : v1 17 ≠ 0 → v2 17 = v1 17 ∧ v2 18 = v1 18) (h3 : v1 17 = 0 → xk v1 v2 p2 (G p1)) : xk v v2 p2 (P.bind G) := by
  refine ⟨fun h0 => ?_, fun h0 => ?_⟩
  · obtain ⟨a1, a2⟩ := h1.1 h0
    have : v1 17 ≠ 0 := by rw [a1]; exact h0
    obtain ⟨b1, b2⟩ := h2 this
    exact ⟨b1.trans a1, b2.trans a2⟩
  · rcases h1.2 h0 with ⟨a1, a2⟩ | ⟨Fl, a1, a2, a3, a4⟩
    · rw [a1]
      show _ ∨ _
      rcases (h3 a2).2 a2 with ⟨b1, b2⟩ | ⟨Fl, b1, b2, b3, b4⟩
      · exact .inl ⟨b1, b2⟩
      · exact .inr ⟨Fl, b1, b2, b3, by rw [← he]; exact b4⟩
    · obtain ⟨b1, b2⟩ := h2 a2
      rw [a1]
      exact .inr ⟨Fl, rfl, by rw [b1]; exact a2, by rw [b1]; exact a3, by rw [b2]; exact a4⟩
theorem xk.rf : xk v v p (.ok p) := ⟨fun _ => ⟨rfl, rfl⟩, fun h0 => .inl ⟨rfl, h0⟩⟩
theorem rC_fn : ∀ q q', (∃ x, rC cb p = some (q, x)) → (∃ x, rC cb p = some (q', x)) → q = q' := fun q q' ⟨x, h1⟩ ⟨y, h2⟩ => by
  rw [h1] at h2
  simp only [Option.some.injEq, Prod.mk.injEq] at h2
  exact h2.1
/-- a count, its end and its fault -/
theorem x_count {Qr : Int64 → xb_H → Prop} (hs : rdH mm st N b e cb h F) (hp : rdP v b p e) (hb : bs_ v e) (hQ : ∀ (r : Int64) (v' : Nat → Int32) (p' : Nat), ro v v' p p' e → (v' 17 = 0 → rC cb p = some (p', r)) → xk v v' p' (pCx cb e p) → Qr r (mH h F mm v')) : w_M_count mm (mH h F mm v) Qr :=
  f_count hs hp hb (fun r v1 p1 o1 f1 b1 k1 => hQ r v1 p1 o1 f1 (xk_of rC_fn o1 (fun hz => ⟨r, f1 hz⟩) (fun h0 ⟨q, ⟨x, h7⟩, h8⟩ => b1 h0 ⟨q, x, h7, h8⟩) k1))
theorem x_wanted {x1 x2 : Int32} {Qr : xb_H → Prop} (hs : rdH mm st N b e cb h F) (hp : rdP v b p e) (hb : bs_ v e) (hQ : ∀ (v' : Nat → Int32) (p' : Nat), ro v v' p p' e → (v' 17 = 0 → p' = p + 1 ∧ ¬ ub cb p < x1 ∧ ub cb p ≤ x2) → xk v v' p' (pW cb e x1 x2 p) → Qr (mH h F mm v')) : w_M_wanted mm x1 x2 (mH h F mm v) Qr :=
  f_wanted hs hp hb (fun v1 p1 o1 f1 b1 k1 => hQ v1 p1 o1 f1 (xk_of (fun q q' h1 h2 => h1.1.trans h2.1.symm) o1 f1 b1 k1))
theorem x_valueType {Qr : xb_H → Prop} (hs : rdH mm st N b e cb h F) (hp : rdP v b p e) (hb : bs_ v e) (hQ : ∀ (v' : Nat → Int32) (p' : Nat), ro v v' p p' e → (v' 17 = 0 → p' = p + 1 ∧ ¬ ub cb p < 124 ∧ ¬ 127 < ub cb p) → xk v v' p' (pVT cb e p) → Qr (mH h F mm v')) : w_M_valueType mm (mH h F mm v) Qr :=
  f_valueType hs hp hb (fun v1 p1 o1 f1 b1 k1 => hQ v1 p1 o1 f1 (xk_of (fun q q' h1 h2 => h1.1.trans h2.1.symm) o1 f1 b1 k1))
theorem x_name {Qr : xb_H → Prop} (hs : rdH mm st N b e cb h F) (hp : rdP v b p e) (hb : bs_ v e) (hQ : ∀ (v' : Nat → Int32) (p' : Nat), ro v v' p p' e → (v' 17 = 0 → rN cb p p') → xk v v' p' (pNm cb e p) → Qr (mH h F mm v')) : w_M_name0 mm (mH h F mm v) Qr :=
  f_name hs hp hb (fun v1 p1 o1 f1 b1 k1 => hQ v1 p1 o1 f1 (xk_of (fun q q' h1 h2 => rN_f h1 h2) o1 f1 b1 k1))
theorem x_written {x1 x2 : Int32} {op w : Nat} {Qr : xb_H → Prop} (hx : x1.toInt = op) (hs : rdH mm st N b e cb h F) (hp : rdP v b p e) (hb : bs_ v e) (hw : x2.toInt = w) (hw2 : w ≤ 1000000) (hQ : ∀ (v' : Nat → Int32) (p' : Nat), ro v v' p p' e → (v' 17 = 0 → rW cb (wk_sh op) p p') → xk v v' p' (pWr cb e w (wk_sh op) p) → Qr (mH h F mm v')) : w_M_written mm x1 x2 (mH h F mm v) Qr :=
  f_written hx hs hp hb hw hw2 (fun v1 p1 o1 f1 b1 k1 => hQ v1 p1 o1 f1 (xk_of (fun q q' h1 h2 => rW_f h1 h2) o1 f1 b1 k1))
theorem x_limits {Qr : xb_H → Prop} (hs : rdH mm st N b e cb h F) (hby : ∀ j, -128 ≤ (cb j).toInt ∧ (cb j).toInt ≤ 127) (hp : rdP v b p e) (hb : bs_ v e) (hQ : ∀ (v' : Nat → Int32) (p' : Nat), ro v v' p p' e → (v' 17 = 0 → rLim cb p p') → xk v v' p' (pLim cb e p) → Qr (mH h F mm v')) : w_M_limits mm (mH h F mm v) Qr := by
  obtain ⟨s1, s2, s3, s4, s5, s6, s7, s8⟩ := id hs
  unfold w_M_limits w_M_limits_L32
  refine ⟨hs.1, fun v2 e2 => x_wanted hs hp hb (fun v1 p1 o1 f1 k1 _ => ?_)⟩
  rw [mH_i] at e2
  have L33 : ∀ y0 : Int32, (v1 17 = 0 → (y0 = 0 → ub cb p ≠ 1) ∧ (y0 ≠ 0 → ub cb p = 1)) → w_M_limits_L33 Qr mm y0 (mH h F mm v1) := by
    intro y0 hy
    unfold w_M_limits_L33 w_M_limits_L48
    refine ⟨s1, x_count hs (o1.P hp) (o1.bs hb) (fun r3 v3 p3 o3 f3 k3 _ => ⟨fun h0 => hQ v3 p3 (o1.tr o3) (fun hz => ?_) ?_, fun h0 => x_count hs (o3.P (o1.P hp)) (o3.bs (o1.bs hb)) (fun r4 v4 p4 o4 f4 k4 _ => hQ v4 p4 (o1.tr (o3.tr o4)) (fun hz => ?_) ?_)⟩)⟩
    · have hz1 := o3.z hz
      obtain ⟨g1, g2⟩ := f1 hz1
      refine ⟨g2, p3, r3, by rw [← g1]; exact f3 hz, .inl ⟨(hy hz1).1 h0, rfl⟩⟩
    · refine k1.tr o1.e14 k3.1 (fun hz1 => k3.tr o3.e14 (fun _ => ⟨rfl, rfl⟩) (fun _ => ?_))
      rw [if_neg ((hy hz1).1 h0)]
      exact xk.rf
    · have hz3 := o4.z hz
      have hz1 := o3.z hz3
      obtain ⟨g1, g2⟩ := f1 hz1
      refine ⟨g2, p3, r3, by rw [← g1]; exact f3 hz3, .inr ⟨(hy hz1).2 h0, r4, f4 hz⟩⟩
    · refine k1.tr o1.e14 (fun hn => ?_) (fun hz1 => k3.tr o3.e14 k4.1 (fun _ => ?_))
      · obtain ⟨a1, a2⟩ := k3.1 hn
        obtain ⟨b1, b2⟩ := k4.1 (by rw [a1]; exact hn)
        exact ⟨b1.trans a1, b2.trans a2⟩
      · rw [if_pos ((hy hz1).2 h0)]
        exact k4
  rw [mH_i]
  refine ⟨fun hn => L33 0 (fun h9 => absurd h9 hn), fun hz => ?_⟩
  obtain ⟨g1, g2⟩ := f1 hz
  have h4 := o1.2.2.2.1
  refine ⟨st, s2, s3, ?_, ?_, ?_⟩
  · rw [e2, z_in, hp.1]
    show _ ∧ (p : Int) < xb_n h st
    omega
  all_goals
    rw [mH_o s6, z_cl, e2, hp.1, Int.toNat_natCast, s8 p hp.2.2.1 (by omega), ub_1 (hby p)]
    intro k
  · exact L33 0 (fun _ => ⟨fun _ => k, fun h9 => absurd rfl h9⟩)
  · exact L33 1 (fun _ => ⟨fun h9 => absurd h9 (by decide), fun _ => k⟩)
theorem x_tableType {Qr : xb_H → Prop} (hs : rdH mm st N b e cb h F) (hby : ∀ j, -128 ≤ (cb j).toInt ∧ (cb j).toInt ≤ 127) (hp : rdP v b p e) (hb : bs_ v e) (hQ : ∀ (v' : Nat → Int32) (p' : Nat), ro v v' p p' e → (v' 17 = 0 → rTab cb p p') → xk v v' p' (pTab cb e p) → Qr (mH h F mm v')) : w_M_tableType mm (mH h F mm v) Qr := by
  unfold w_M_tableType
  refine ⟨hs.1, x_wanted hs hp hb (fun v1 p1 o1 f1 k1 _ => x_limits hs hby (o1.P hp) (o1.bs hb) (fun v2 p2 o2 f2 k2 _ => hQ v2 p2 (o1.tr o2) (fun hz => ?_) (k1.tr o1.e14 k2.1 (fun _ => k2))))⟩
  obtain ⟨g1, g2, g3⟩ := f1 (o2.z hz)
  refine ⟨?_, by rw [← g1]; exact f2 hz⟩
  rw [z_lt] at g2
  rw [z_le] at g3
  rw [z_eq]
  simp only [Int32.reduceToInt] at *
  omega
theorem x_variableKind {Qr : xb_H → Prop} (hs : rdH mm st N b e cb h F) (hp : rdP v b p e) (hb : bs_ v e) (hQ : ∀ (v' : Nat → Int32) (p' : Nat), ro v v' p p' e → (v' 17 = 0 → rVar cb p p') → xk v v' p' (pVar cb e p) → Qr (mH h F mm v')) : w_M_variableKind mm (mH h F mm v) Qr := by
  unfold w_M_variableKind
  refine ⟨hs.1, x_valueType hs hp hb (fun v1 p1 o1 f1 k1 _ => x_wanted hs (o1.P hp) (o1.bs hb) (fun v2 p2 o2 f2 k2 _ => hQ v2 p2 (o1.tr o2) (fun hz => ?_) (k1.tr o1.e14 k2.1 (fun _ => k2))))⟩
  obtain ⟨g1, g2⟩ := f1 (o2.z hz)
  obtain ⟨g3, g4⟩ := f2 hz
  rw [g1] at g4
  exact ⟨g2, g4, by omega⟩
end RF6
