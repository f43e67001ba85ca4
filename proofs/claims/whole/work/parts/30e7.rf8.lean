-- equality, reading: imports and bodies (the reference)
noncomputable def pBy (e p : Nat) : Rs := mkP (fun q => q = p + 1) e (2, e)
noncomputable def pImp (cb : Nat → Int32) (e p : Nat) : Rs := (pNm cb e p).bind (fun q1 => (pNm cb e q1).bind (fun q2 => (pBy e q2).bind (fun _ => if ub cb q2 = 0 then pCx cb e (q2 + 1) else if ub cb q2 = 1 then pTab cb e (q2 + 1) else if ub cb q2 = 2 then pLim cb e (q2 + 1) else if ub cb q2 = 3 then pVar cb e (q2 + 1) else .error (5, q2))))
section RF8
variable {h : xb_H} {F : Nat → Nat → Int32} {mm st N b e p p' q p1 p2 ok im nm : Nat} {cb v v' v1 v2 v3 f : Nat → Int32} {P : Rs} {G : Nat → Rs}
theorem xk.er (h1 : xk v v1 p1 P) (hn : v1 17 ≠ 0) : xk v v1 p1 (P.bind G) := by
  refine ⟨h1.1, fun h0 => ?_⟩
  rcases h1.2 h0 with ⟨a1, a2⟩ | ⟨Fl, a1, a2, a3, a4⟩
  · exact absurd a2 hn
  · rw [a1]
    exact .inr ⟨Fl, rfl, a2, a3, a4⟩
theorem xk.pr (k2 : xk v1 v2 p2 P) (k3 : v2 17 ≠ 0 → v3 17 = v2 17 ∧ v3 18 = v2 18) : v1 17 ≠ 0 → v3 17 = v1 17 ∧ v3 18 = v1 18 := fun hn => by
  obtain ⟨a1, a2⟩ := k2.1 hn
  obtain ⟨b1, b2⟩ := k3 (by rw [a1]; exact hn)
  exact ⟨b1.trans a1, b2.trans a2⟩
theorem x_next {Qr : Int32 → xb_H → Prop} (hs : rdH mm st N b e cb h F) (hp : rdP v b p e) (hb : bs_ v e) (hQ : ∀ (r : Int32) (v' : Nat → Int32) (p' : Nat), ro v v' p p' e → (v' 17 = 0 → p' = p + 1 ∧ r = ub cb p) → xk v v' p' (pBy e p) → Qr r (mH h F mm v')) : w_M_next mm (mH h F mm v) Qr :=
  f_next hs hp hb (fun r v1 p1 o1 f1 b1 k1 => hQ r v1 p1 o1 f1 (xk_of (fun q q' h1 h2 => h1.trans h2.symm) o1 (fun hz => (f1 hz).1) (fun h0 ⟨q, h7, h8⟩ => b1 h0 ⟨q, _, ⟨h7, rfl⟩, h8⟩) k1))
theorem x_importEntry {Qr : xb_H → Prop} (hs : rdH mm st N b e cb h F) (hby : ∀ j, -128 ≤ (cb j).toInt ∧ (cb j).toInt ≤ 127) (k10 : xb_r h mm 10 = some im ∧ xb_k h im = 102 ∧ xb_n h im = 256 ∧ im ≠ mm) (h5 : (v 5).toInt = nm) (hnm : nm < 64) (hp : rdP v b p e) (hb : bs_ v e)
    (hQ : ∀ (v' : Nat → Int32) (p' : Nat) (F' : Nat → Nat → Int32), ro v v' p p' e → (v' 17 ≠ 0 ∧ F' = F) ∨ (v' 17 = 0 ∧ ∃ κ : Nat, κ < 4 ∧ RS cb 2 p p' ∧ (ub cb (qN cb (qN cb p))).toInt = κ ∧ F' = va_up F im (va_up (F im) (4 * nm + κ) (F im (4 * nm + κ) + 1))) → xk v v' p' (pImp cb e p) → Qr (mH h F' mm v')) : w_M_importEntry mm (mH h F mm v) Qr := by
  obtain ⟨k1, k2, k3, k4⟩ := k10
  unfold w_M_importEntry
  refine ⟨hs.1, x_name hs hp hb (fun v1 p1 o1 f1 q1 _ => x_name hs (o1.P hp) (o1.bs hb) (fun v2 p2 o2 f2 q2 _ => x_next hs (o2.P (o1.P hp)) (o2.bs (o1.bs hb)) (fun r v3 p3 o3 f3 q3 _ => ?_)))⟩
  have O3 := o1.tr (o2.tr o3)
  have P3 := O3.P hp
  rw [mH_i]
  refine ⟨fun hz => ?_, fun hn => hQ v3 p3 F O3 (.inl ⟨hn, rfl⟩) (q1.tr o1.e14 (q2.pr q3.1) (fun _ => q2.tr o2.e14 q3.1 (fun _ => q3.er hn)))⟩
  obtain ⟨g1, g2⟩ := f3 hz
  have z2 := o3.z hz
  have z1 := o2.z z2
  have N1 := f1 z1
  have N2 := f2 z2
  have hkp : qN cb (qN cb p) = p2 := by rw [rN_E N1, rN_E N2]
  subst g1 g2
  have hr := ub_r (cb := cb) (p := p2)
  have full : ∀ (v4 : Nat → Int32) (p4 : Nat) (Pk : Rs), xk v3 v4 p4 Pk → (if ub cb p2 = 0 then pCx cb e (p2 + 1) else if ub cb p2 = 1 then pTab cb e (p2 + 1) else if ub cb p2 = 2 then pLim cb e (p2 + 1) else if ub cb p2 = 3 then pVar cb e (p2 + 1) else .error (5, p2)) = Pk → xk v v4 p4 (pImp cb e p) := fun v4 p4 Pk hk he => q1.tr o1.e14 (fun hn => absurd z1 hn) (fun _ => q2.tr o2.e14 (fun hn => absurd z2 hn) (fun _ => q3.tr o3.e14 (fun hn => absurd hz hn) (fun _ => by rw [he]; exact hk)))
  have L80 : ∀ (v4 : Nat → Int32) (p4 : Nat), ro v3 v4 (p2 + 1) p4 e → (v4 17 = 0 → (ub cb p2).toInt < 4 ∧ RS cb 2 p p4) → xk v v4 p4 (pImp cb e p) → w_M_importEntry_L80 Qr mm (ub cb p2) (mH h F mm v4) := by
    intro v4 p4 o4 hok hkx
    have O4 := O3.tr o4
    unfold w_M_importEntry_L80 w_M_importEntry_L104
    rw [mH_i]
    refine ⟨hs.1, fun hn => hQ v4 p4 F O4 (.inl ⟨hn, rfl⟩) hkx, fun hz4 => ?_⟩
    obtain ⟨c1, c2⟩ := hok hz4
    have e5 : (4 * v4 5 + ub cb p2).toInt = (4 * nm + (ub cb p2).toInt.toNat : Nat) := by
      have : v4 5 = v 5 := O4.1 5 (by omega) (by omega) (by omega)
      rw [this, z_add, Int32.toInt_mul, z_bm, h5]
      simp only [Int32.reduceToInt]
      omega
    have hin : vp_in (4 * v4 5 + ub cb p2) (xb_n h im) := by
      rw [z_in, e5, k3]
      omega
    refine ⟨im, k1, k2, hin, hin, fun h7 e7 => ?_⟩
    rw [mH_A k4, mH_o k4, show (4 * v4 5 + ub cb p2).toNatClampNeg = 4 * nm + (ub cb p2).toInt.toNat from by rw [z_cl, e5]; omega] at e7
    subst e7
    exact hQ v4 p4 _ O4 (.inr ⟨hz4, (ub cb p2).toInt.toNat, by omega, c2, by rw [hkp]; omega, rfl⟩) hkx
  refine ⟨fun n0 => ⟨fun n1 => ⟨fun n2 => ⟨fun n3 => ?_, fun k => ?_⟩, fun k => ?_⟩, fun k => ?_⟩, fun k => ?_⟩
  · exact f_fail (Fl := (5, p2)) hs.1 P3 (O3.bs hb) (by decide) (sub1 (p := p2) o3.2.1) (by have := hb.2.2; have := o3.2.2.2.1; omega) ⟨rfl, rfl⟩ (fun v' g1 g2 g3 _ => L80 v' (p2 + 1) g1 (fun h9 => absurd h9 g2) (full v' (p2 + 1) (.error (5, p2)) ⟨fun h9 => absurd hz h9, fun _ => .inr ⟨(5, p2), rfl, g2, g3.2 hz g2⟩⟩ (by rw [if_neg n0, if_neg n1, if_neg n2, if_neg n3])))
  · exact x_variableKind hs P3 (O3.bs hb) (fun v4 p4 o4 f4 q4 _ => L80 v4 p4 o4 (fun hz4 => ⟨by rw [k]; decide, p1, p2, N1, N2, .inr (.inr (.inr ⟨k, f4 hz4⟩))⟩) (full v4 p4 _ q4 (by rw [k]; rfl)))
  · exact x_limits hs hby P3 (O3.bs hb) (fun v4 p4 o4 f4 q4 _ => L80 v4 p4 o4 (fun hz4 => ⟨by rw [k]; decide, p1, p2, N1, N2, .inr (.inr (.inl ⟨k, f4 hz4⟩))⟩) (full v4 p4 _ q4 (by rw [k]; rfl)))
  · exact x_tableType hs hby P3 (O3.bs hb) (fun v4 p4 o4 f4 q4 _ => L80 v4 p4 o4 (fun hz4 => ⟨by rw [k]; decide, p1, p2, N1, N2, .inr (.inl ⟨k, f4 hz4⟩)⟩) (full v4 p4 _ q4 (by rw [k]; rfl)))
  · exact x_count hs P3 (O3.bs hb) (fun r4 v4 p4 o4 f4 q4 _ => L80 v4 p4 o4 (fun hz4 => ⟨by rw [k]; decide, p1, p2, N1, N2, .inl ⟨k, r4, f4 hz4⟩⟩) (full v4 p4 _ q4 (by rw [k]; rfl)))
end RF8
