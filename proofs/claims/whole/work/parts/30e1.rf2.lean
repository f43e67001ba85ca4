-- equality, reading: faults of counts and names (the reference)
section RF2
variable {h : xb_H} {F : Nat → Nat → Int32} {mm st N b e p p' q : Nat} {cb v v' v2 : Nat → Int32} {Fl Fl2 : Nat × Nat}
/-- nothing was there to be read -/
theorem fk_n (k1 : fkd v v' (2, e)) (b1 : v 17 = 0 → p < e → v' 17 = 0) (hn : v' 17 ≠ 0) (hF : e ≤ p → Fl = (2, e)) : fkd v v' Fl := by
  rcases Nat.lt_or_ge p e with h9 | h9
  · have : v 17 ≠ 0 := fun h8 => hn (b1 h8 h9)
    exact ⟨fun _ => k1.1 this, fun h8 => absurd h8 this⟩
  · rw [hF h9]
    exact k1
theorem f_countL {Qr : Int64 → xb_H → Prop} (hs : rdH mm st N b e cb h F) : ∀ (m : Nat) (x1 : Int64) (x3 : Int32) (v : Nat → Int32) (p : Nat), x3.toInt = 4 - m → m ≤ 4 → rdP v b p e → bs_ v e → SpF h F mm v p e (fun q x => rdc cb (m + 1) p x1 x3 = some (q, x)) (fdc cb e (m + 1) p x3) Qr → w_M_count_L4 Qr (m + 1) mm x1 x3 (mH h F mm v) := by
  intro m
  have lt : ∀ (m p : Nat) (x1 : Int64) (x3 : Int32) (q : Nat) (x : Int64), rdc cb m p x1 x3 = some (q, x) → p < q := by
    intro m
    induction m with
    | zero => intro p x1 x3 q x h9; cases h9
    | succ m ih =>
      intro p x1 x3 q x h9
      unfold rdc at h9
      split at h9
      · cases h9
      · split at h9
        · have := ih _ _ _ _ _ h9
          omega
        · simp only [Option.some.injEq, Prod.mk.injEq] at h9
          omega
  induction m with
  | zero =>
    intro x1 x3 v p e1 e2 hp hb hQ
    unfold w_M_count_L4
    refine ⟨fun h9 => ?_, fun h9 => ⟨hs.1, f_next hs hp hb (fun r v1 p1 o1 f1 b1 k1 _ => ?_)⟩⟩
    · rw [z_le] at h9
      simp only [Int32.reduceToInt] at h9
      omega
    · rw [mH_i]
      have e3 : x3 = 4 := by rw [z_eq, e1]; rfl
      unfold w_M_count_L45
      rw [mH_i]
      refine ⟨fun hn => ⟨hs.1, fun hz => absurd hz hn, fun _ => hQ 0 v1 p1 o1 (fun hz => absurd hz hn) (fun h0 ⟨q, x, h7, h8⟩ => b1 h0 ⟨p + 1, _, ⟨rfl, rfl⟩, by have := lt _ _ _ _ _ _ h7; omega⟩) (fk_n (p := p) k1 (fun h8 h7 => b1 h8 ⟨p + 1, _, ⟨rfl, rfl⟩, h7⟩) hn (fun h9 => by unfold fdc; rw [if_pos h9]))⟩, fun hz => ⟨fun h4 => absurd e3 h4, fun _ => ⟨fun h15 => ⟨hs.1, fun _ v3 e3' => ⟨fun h128 => ?_, fun h128 => ?_⟩, fun hn => absurd hz hn⟩, fun h15 => ?_⟩⟩⟩
      · rw [z_le] at h128 h15
        simp only [Int32.reduceToInt] at h128 h15
        omega
      · obtain ⟨f2, f3⟩ := f1 hz
        subst f3
        refine hQ v3 v1 p1 o1 (fun _ => ?_) (fun _ _ => hz) (k1.go hz o1.e14 fkd.rf)
        unfold rdc
        rw [if_neg (fun h9 => h9.2 h15), if_neg h128, f2, e3']
      · obtain ⟨f2, f3⟩ := f1 hz
        subst f3
        have pe : ¬ e ≤ p := by
          have := o1.2.2.2.1
          omega
        refine f_fail (Fl := fdc cb e (0 + 1) p x3) hs.1 (o1.P hp) (o1.bs hb) (by decide) (sub1 (p := p) (by rw [o1.2.1, f2])) (by have := hb.2.2; omega) (by unfold fdc; rw [if_neg pe, if_pos ⟨e3, h15⟩]; exact ⟨rfl, rfl⟩) (fun v' g1 g2 g3 _ => ?_)
        rw [mH_i]
        refine ⟨hs.1, fun h9 => absurd h9 g2, fun _ => hQ 0 v' p1 (o1.tr g1) (fun h9 => absurd h9 g2) (fun h0 ⟨q, x, h7, h8⟩ => ?_) (k1.go hz o1.e14 g3)⟩
        unfold rdc at h7
        rw [if_pos ⟨e3, h15⟩] at h7
        cases h7
  | succ m ih =>
    intro x1 x3 v p e1 e2 hp hb hQ
    unfold w_M_count_L4
    refine ⟨fun h9 => ?_, fun h9 => ⟨hs.1, f_next hs hp hb (fun r v1 p1 o1 f1 b1 k1 _ => ?_)⟩⟩
    · rw [z_le] at h9
      simp only [Int32.reduceToInt] at h9
      omega
    · rw [mH_i]
      have e3 : ¬ x3 = 4 := by rw [z_eq, e1]; simp only [Int32.reduceToInt]; omega
      unfold w_M_count_L45
      rw [mH_i]
      refine ⟨fun hn => ⟨hs.1, fun hz => absurd hz hn, fun _ => hQ 0 v1 p1 o1 (fun hz => absurd hz hn) (fun h0 ⟨q, x, h7, h8⟩ => b1 h0 ⟨p + 1, _, ⟨rfl, rfl⟩, by have := lt _ _ _ _ _ _ h7; omega⟩) (fk_n (p := p) k1 (fun h8 h7 => b1 h8 ⟨p + 1, _, ⟨rfl, rfl⟩, h7⟩) hn (fun h9 => by unfold fdc; rw [if_pos h9]))⟩, fun hz => ⟨fun h4 => ⟨hs.1, fun _ v3 e3' => ⟨fun h128 => ?_, fun h128 => ?_⟩, fun hn => absurd hz hn⟩, fun h4 => absurd h4 e3⟩⟩
      · obtain ⟨f2, f3⟩ := f1 hz
        subst f3 f2
        have pe : ¬ e ≤ p := by
          have := o1.2.2.2.1
          omega
        have hr : rdc cb (m + 1 + 1) p x1 x3 = rdc cb (m + 1) (p + 1) v3 (x3 + 1) := by
          conv => lhs; unfold rdc
          rw [if_neg (fun h9 => e3 h9.1), if_pos h128, e3']
        have hf : fdc cb e (m + 1 + 1) p x3 = fdc cb e (m + 1) (p + 1) (x3 + 1) := by
          conv => lhs; unfold fdc
          rw [if_neg pe, if_neg (fun h9 => e3 h9.1)]
        refine ih v3 (x3 + 1) v1 (p + 1) ?_ (by omega) (o1.P hp) (o1.bs hb) (fun r' v' p' o' g1 g2 g3 => hQ r' v' p' (o1.tr o') (fun h9 => by rw [hr]; exact g1 h9) (fun _ h9 => g2 hz (by rw [hr] at h9; exact h9)) (by rw [hf]; exact k1.go hz o1.e14 g3))
        rw [z_add, e1]
        simp only [Int32.reduceToInt]
        omega
      · obtain ⟨f2, f3⟩ := f1 hz
        subst f3
        refine hQ v3 v1 p1 o1 (fun _ => ?_) (fun _ _ => hz) (k1.go hz o1.e14 fkd.rf)
        unfold rdc
        rw [if_neg (fun h9 => e3 h9.1), if_neg h128, f2, e3']
theorem f_count {Qr : Int64 → xb_H → Prop} (hs : rdH mm st N b e cb h F) (hp : rdP v b p e) (hb : bs_ v e) (hQ : SpF h F mm v p e (fun q x => rC cb p = some (q, x)) (fC cb e p) Qr) : w_M_count mm (mH h F mm v) Qr := by
  unfold w_M_count
  exact ⟨5, f_countL hs 4 0 0 v p rfl (by omega) hp hb hQ⟩
end RF2
