-- the reference's reader: names, signed numbers, rows
def blb (x : Int32) : Int32 := if ¬ 128 ≤ x then 0 else if ¬ x < 194 ∧ ¬ 224 ≤ x then 1 else if ¬ x < 224 ∧ ¬ 240 ≤ x then 2 else if ¬ x < 240 ∧ ¬ 245 ≤ x then 3 else -1
/-- a character in UTF-8 -/
def grp (cb : Nat → Int32) (a stop : Nat) : Prop :=
  0 ≤ (blb (ub cb a)).toInt ∧ (a : Int) + (blb (ub cb a)).toInt < stop ∧ (∀ k : Nat, 1 ≤ k → (k : Int) ≤ (blb (ub cb a)).toInt → cb (a + k) &&& 192 = 128) ∧
  ∀ s : Int32, s = (if (blb (ub cb a)) ≤ 0 then 0 else ub cb (a + 1)) → ¬ (ub cb a = 224 ∧ s < 160) ∧ ¬ (ub cb a = 237 ∧ 159 < s) ∧ ¬ (ub cb a = 240 ∧ s < 144) ∧ ¬ (ub cb a = 244 ∧ 143 < s)
def utf (cb : Nat → Int32) (stop : Nat) : Nat → Nat → Prop
  | 0, _ => False
  | m + 1, a => a = stop ∨ (a < stop ∧ grp cb a stop ∧ utf cb stop m (a + (blb (ub cb a)).toInt.toNat + 1))
/-- a name from p to q -/
def rN (cb : Nat → Int32) (p q : Nat) : Prop := ∃ p1 n, rC cb p = some (p1, n) ∧ q = p1 + n.toInt.toNat ∧ ∃ m, utf cb q m p1
def rTs (cb : Nat → Int32) (p q : Nat) : Prop := ∀ j, p ≤ j → j < q → ¬ ub cb j < 124 ∧ ¬ 127 < ub cb j
section MR4
variable {h : xb_H} {F : Nat → Nat → Int32} {mm st N b e p p' q : Nat} {cb v v' v2 : Nat → Int32}
theorem z_ad1 {x y : Int32} {a w : Nat} (h1 : x.toInt = a) (h2 : y.toInt = w) (ha : a ≤ 1000000) (hw : w ≤ 1000000) : (x + y + 1).toInt = (a + w + 1 : Nat) := by
  rw [z_add, z_add, h1, h2]
  simp only [Int32.reduceToInt]
  omega
theorem z_ad2 {x y : Int32} {a w : Nat} (h1 : x.toInt = a) (h2 : y.toInt = w) (ha : a ≤ 1000000) (hw : w ≤ 1000000) : (x + y).toInt = (a + w : Nat) := by
  rw [z_add, h1, h2]
  omega
theorem rN_f {q' : Nat} (h1 : rN cb p q) (h2 : rN cb p q') : q = q' := by
  obtain ⟨p1, n, a1, a2, -⟩ := h1
  obtain ⟨p2, k, b1, b2, -⟩ := h2
  rw [a1] at b1
  simp only [Option.some.injEq, Prod.mk.injEq] at b1
  rw [a2, b2, b1.1, b1.2]
theorem m_behindLead {x : Int32} {g : xb_H} {Qr : Int32 → xb_H → Prop} (hQ : Qr (blb x) g) : w_M_behindLead x g Qr := by
  unfold w_M_behindLead w_M_behindLead_L29 w_M_behindLead_L47 w_M_behindLead_L65 w_M_behindLead_L66
  unfold blb at hQ
  refine ⟨fun h1 => ⟨fun h2 => ⟨fun h3 => ⟨fun h4 => ?_, fun h4 => ⟨fun h5 => ?_, fun h5 => ?_⟩⟩, fun h3 => ⟨fun h6 => ⟨fun h4 => ?_, fun h4 => ⟨fun h5 => ?_, fun h5 => ?_⟩⟩, fun h6 => ?_⟩⟩, fun h2 => ⟨fun h7 => ⟨fun h3 => ⟨fun h4 => ?_, fun h4 => ⟨fun h5 => ?_, fun h5 => ?_⟩⟩, fun h3 => ⟨fun h6 => ⟨fun h4 => ?_, fun h4 => ⟨fun h5 => ?_, fun h5 => ?_⟩⟩, fun h6 => ?_⟩⟩, fun h7 => ?_⟩⟩, fun h1 => ?_⟩
  all_goals simp only [z_le, z_lt, Int32.reduceToInt] at *
  all_goals
    first
    | (rw [if_pos (by omega)] at hQ; exact hQ)
    | (rw [if_neg (by omega), if_pos (by omega)] at hQ; exact hQ)
    | (rw [if_neg (by omega), if_neg (by omega), if_pos (by omega)] at hQ; exact hQ)
    | (rw [if_neg (by omega), if_neg (by omega), if_neg (by omega), if_pos (by omega)] at hQ; exact hQ)
    | (rw [if_neg (by omega), if_neg (by omega), if_neg (by omega), if_neg (by omega)] at hQ; exact hQ)
    | omega
theorem blb_r (x : Int32) : -1 ≤ (blb x).toInt ∧ (blb x).toInt ≤ 3 := by
  unfold blb
  split
  · decide
  · split
    · decide
    · split
      · decide
      · split <;> decide
theorem m_isGroup {x1 x2 x3 : Int32} {a stop : Nat} {Qr : Int32 → xb_H → Prop} (hs : rdH mm st N b e cb h F) (h1 : x1.toInt = a) (h2 : x2 = blb (ub cb a)) (h3 : x3.toInt = stop) (hb : b ≤ a) (ha : a < stop) (he : stop ≤ e)
    (hQ : ∀ r : Int32, (r = 0 ∧ ¬ grp cb a stop) ∨ (r = 1 ∧ grp cb a stop) → Qr r (mH h F mm v)) : w_M_isGroup mm x1 x2 x3 (mH h F mm v) Qr := by
  obtain ⟨s1, s2, s3, s4, s5, s6, s7, s8⟩ := id hs
  have hr := blb_r (ub cb a)
  rw [← h2] at hr
  have e12 : (x1 + x2).toInt = a + x2.toInt := by
    rw [z_add, h1]
    omega
  have at_ : ∀ j, b ≤ j → j < e → xb_i (mH h F mm v) st j = cb j := fun j g1 g2 => by rw [mH_o s6]; exact s8 j g1 g2
  have no : ¬ grp cb a stop → w_M_isGroup_L169 Qr (mH h F mm v) := fun hn => by
    unfold w_M_isGroup_L169 w_M_isGroup_L170
    exact ⟨.inl rfl, hQ 0 (.inl ⟨rfl, hn⟩)⟩
  -- the end of the loop
  have fin : ∀ (x4 y0 : Int32), 0 ≤ x2.toInt → (a : Int) + x2.toInt < stop → (x4 = 0 → ¬ grp cb a stop) → (x4 ≠ 0 → ∀ k : Nat, 1 ≤ k → (k : Int) ≤ x2.toInt → cb (a + k) &&& 192 = 128) → y0 = (if x2 ≤ 0 then 0 else ub cb (a + 1)) → w_M_isGroup_L94 Qr x4 (ub cb a) y0 (mH h F mm v) := by
    intro x4 y0 g1 g2 g3 g4 g5
    have yes : x4 ≠ 0 → ¬ (ub cb a = 224 ∧ y0 < 160) → ¬ (ub cb a = 237 ∧ 159 < y0) → ¬ (ub cb a = 240 ∧ y0 < 144) → ¬ (ub cb a = 244 ∧ 143 < y0) → w_M_isGroup_L165 Qr (mH h F mm v) := fun k0 k1 k2 k3 k4 => by
      unfold w_M_isGroup_L165 w_M_isGroup_L170
      refine ⟨.inr rfl, hQ 1 (.inr ⟨rfl, ?_⟩)⟩
      unfold grp
      rw [← h2]
      refine ⟨g1, g2, g4 k0, fun s es => ?_⟩
      rw [← g5] at es
      rw [es]
      exact ⟨k1, k2, k3, k4⟩
    have nn : ((ub cb a = 224 ∧ y0 < 160) ∨ (ub cb a = 237 ∧ 159 < y0) ∨ (ub cb a = 240 ∧ y0 < 144) ∨ (ub cb a = 244 ∧ 143 < y0)) → ¬ grp cb a stop := fun hh hg => by
      have := hg.2.2.2 y0 (by rw [← h2]; exact g5)
      rcases hh with hh | hh | hh | hh
      · exact this.1 hh
      · exact this.2.1 hh
      · exact this.2.2.1 hh
      · exact this.2.2.2 hh
    unfold w_M_isGroup_L94
    refine ⟨fun k0 => no (g3 k0), fun k0 => ?_⟩
    have L149 : ¬ (ub cb a = 224 ∧ y0 < 160) → ¬ (ub cb a = 237 ∧ 159 < y0) → ¬ (ub cb a = 240 ∧ y0 < 144) → w_M_isGroup_L149 Qr (ub cb a) y0 (mH h F mm v) := fun k1 k2 k3 => by
      unfold w_M_isGroup_L149
      exact ⟨fun k4 => yes k0 k1 k2 k3 (fun h9 => k4 h9.1), fun k4 => ⟨fun k5 => no (nn (.inr (.inr (.inr ⟨k4, k5⟩)))), fun k5 => yes k0 k1 k2 k3 (fun h9 => k5 h9.2)⟩⟩
    have L133 : ¬ (ub cb a = 224 ∧ y0 < 160) → ¬ (ub cb a = 237 ∧ 159 < y0) → w_M_isGroup_L133 Qr (ub cb a) y0 (mH h F mm v) := fun k1 k2 => by
      unfold w_M_isGroup_L133
      exact ⟨fun k4 => L149 k1 k2 (fun h9 => k4 h9.1), fun k4 => ⟨fun k5 => no (nn (.inr (.inr (.inl ⟨k4, k5⟩)))), fun k5 => L149 k1 k2 (fun h9 => k5 h9.2)⟩⟩
    have L117 : ¬ (ub cb a = 224 ∧ y0 < 160) → w_M_isGroup_L117 Qr (ub cb a) y0 (mH h F mm v) := fun k1 => by
      unfold w_M_isGroup_L117
      exact ⟨fun k4 => L133 k1 (fun h9 => k4 h9.1), fun k4 => ⟨fun k5 => no (nn (.inr (.inl ⟨k4, k5⟩))), fun k5 => L133 k1 (fun h9 => k5 h9.2)⟩⟩
    exact ⟨fun k4 => L117 (fun h9 => k4 h9.1), fun k4 => ⟨fun k5 => no (nn (.inl ⟨k4, k5⟩)), fun k5 => L117 (fun h9 => k5 h9.2)⟩⟩
  have key : 0 ≤ x2.toInt → (a : Int) + x2.toInt < stop → ∀ (m : Nat) (x4 x5 : Int32) (k : Nat), x5.toInt = k → 1 ≤ k → (k : Int) + m = x2.toInt + 1 → (x4 = 0 → ¬ grp cb a stop) → (x4 ≠ 0 → ∀ j : Nat, 1 ≤ j → j < k → cb (a + j) &&& 192 = 128) → w_M_isGroup_L19 Qr (m + 1) mm x1 x2 x4 x5 (mH h F mm v) := by
    intro g1 g2 m
    induction m with
    | zero =>
      intro x4 x5 k k1 k2 k3 k4 k5
      unfold w_M_isGroup_L19
      refine ⟨fun hl => ⟨s1, st, s2, s3, ?_, fun v6 e6 => ?_⟩, fun hl => ?_⟩
      · rw [z_in, h1]
        show _ ∧ (a : Int) < xb_n h st
        omega
      · rw [at_ _ (by rw [z_cl, h1]; omega) (by rw [z_cl, h1]; omega), z_cl, h1, Int.toNat_natCast] at e6
        have e6' : v6 = ub cb a := e6
        subst e6'
        refine ⟨fun h0 => fin x4 0 g1 g2 k4 (fun h9 j j1 j2 => k5 h9 j j1 (by omega)) (by rw [if_pos h0]), fun h0 => ⟨st, s2, s3, ?_, ?_⟩⟩
        · rw [z_le] at h0
          simp only [Int32.reduceToInt] at h0
          rw [z_in, z_inc h1 (Nat.le_trans (Nat.le_of_lt (Nat.lt_of_lt_of_le ha he)) (Nat.le_trans s7 s5))]
          show _ ∧ ((a + 1 : Nat) : Int) < ((xb_n h st : Nat) : Int)
          omega
        · have c1 : (x1 + 1).toNatClampNeg = a + 1 := by
            rw [z_cl, z_inc h1 (Nat.le_trans (Nat.le_of_lt (Nat.lt_of_lt_of_le ha he)) (Nat.le_trans s7 s5)), Int.toNat_natCast]
          rw [z_le] at h0
          simp only [Int32.reduceToInt] at h0
          rw [c1, at_ _ (by omega) (by omega)]
          refine fin x4 _ g1 g2 k4 (fun h9 j j1 j2 => k5 h9 j j1 (by omega)) ?_
          rw [if_neg (by rw [z_le]; simp only [Int32.reduceToInt]; omega)]
          rfl
      · rw [z_lt, k1] at hl
        omega
    | succ m ih =>
      intro x4 x5 k k1 k2 k3 k4 k5
      have e5 : (x5 + 1).toInt = (k + 1 : Nat) := z_inc k1 (by omega)
      have e15 : (x1 + x5).toInt = (a + k : Nat) := z_ad2 h1 k1 (by omega) (by omega)
      have K : ∀ y : Int32, (y = 0 → ¬ grp cb a stop) → (y ≠ 0 → ∀ j : Nat, 1 ≤ j → j < k + 1 → cb (a + j) &&& 192 = 128) → w_M_isGroup_L54 (w_M_isGroup_L19 Qr (m + 1)) Qr mm x1 x2 x5 y (mH h F mm v) := fun y y1 y2 => by
        unfold w_M_isGroup_L54
        exact ih y (x5 + 1) (k + 1) e5 (by omega) (by omega) y1 y2
      have Z : ¬ grp cb a stop → w_M_isGroup_L53 (w_M_isGroup_L19 Qr (m + 1)) Qr mm x1 x2 x5 (mH h F mm v) := fun hn => by
        unfold w_M_isGroup_L53
        exact K 0 (fun _ => hn) (fun h9 => absurd rfl h9)
      unfold w_M_isGroup_L19
      refine ⟨fun hl => ?_, fun _ => ⟨fun h0 => Z (k4 h0), fun h0 => ⟨s1, st, s2, s3, ?_, ?_⟩⟩⟩
      · rw [z_lt, k1] at hl
        omega
      · rw [z_in, e15]
        show _ ∧ ((a + k : Nat) : Int) < xb_n h st
        omega
      · rw [show (x1 + x5).toNatClampNeg = a + k from by rw [z_cl, e15]; omega, at_ _ (by omega) (by omega)]
        refine ⟨fun hn => Z (fun hg => hn (hg.2.2.1 k k2 (by rw [← h2]; omega))), fun hy => K 1 (fun h9 => absurd h9 (by decide)) (fun _ j j1 j2 => ?_)⟩
        rcases Nat.lt_or_ge j k with h9 | h9
        · exact k5 h0 j j1 h9
        · rw [show j = k by omega]
          exact hy
  unfold w_M_isGroup w_M_isGroup_L11
  refine ⟨fun h0 => hQ 0 (.inl ⟨rfl, fun hg => ?_⟩), fun h0 => ⟨fun hl => ?_, fun hl => hQ 0 (.inl ⟨rfl, fun hg => ?_⟩)⟩⟩
  · rw [z_lt] at h0
    simp only [Int32.reduceToInt] at h0
    have := hg.1
    rw [← h2] at this
    omega
  · rw [z_lt, e12, h3] at hl
    rw [z_lt] at h0
    simp only [Int32.reduceToInt] at h0
    exact ⟨x2.toInt.toNat + 1, key (by omega) hl x2.toInt.toNat 1 1 1 rfl (by omega) (by omega) (fun h9 => absurd h9 (by decide)) (fun _ j j1 j2 => by omega)⟩
  · rw [z_lt, e12, h3] at hl
    have := hg.2.1
    rw [← h2] at this
    exact hl this
theorem m_nameL {Qr : xb_H → Prop} {x3 : Int32} {stop : Nat} (hs : rdH mm st N b e cb h F) (h3 : x3.toInt = stop) (he : stop ≤ e) : ∀ (m a : Nat) (v : Nat → Int32), rdP v b a e → a ≤ stop → stop - a + 1 ≤ m → Sp0 h F mm v a e (fun q => q = stop ∧ ∃ k, utf cb stop k a) Qr → w_M_name0_L52 Qr (m + 1) mm x3 (mH h F mm v) := by
  obtain ⟨s1, s2, s3, s4, s5, s6, s7, s8⟩ := id hs
  have dead : ∀ (m : Nat) (v' : Nat → Int32), v' 17 ≠ 0 → Qr (mH h F mm v') → w_M_name0_L52 Qr (m + 1) mm x3 (mH h F mm v') := by
    intro m v' g2 hq
    unfold w_M_name0_L52 w_M_name0_L127
    rw [mH_i]
    exact ⟨s1, fun _ => hq, fun _ => ⟨fun _ => hq, fun h9 => absurd h9 g2⟩⟩
  intro m
  induction m with
  | zero => intro a v hp ha hm hQ; omega
  | succ m ih =>
    intro a v hp ha hm hQ
    obtain ⟨p1, p2, p3, p4⟩ := id hp
    unfold w_M_name0_L52 w_M_name0_L127 w_M_name0_L124
    rw [mH_i]
    refine ⟨s1, fun hl => ?_, fun hl => ⟨fun hn => ?_, fun hz => ⟨st, s2, s3, ?_, ?_⟩⟩⟩
    · rw [z_le, p1, h3] at hl
      have ea : a = stop := by omega
      exact hQ v a (ro.rf p1 p4) (fun _ => ⟨ea, 1, .inl ea⟩) (fun h9 _ => h9)
    · rw [z_le, p1, h3] at hl
      exact hQ v a (ro.rf p1 p4) (fun h9 => absurd h9 hn) (fun h9 => absurd h9 hn)
    · rw [z_le, p1, h3] at hl
      rw [z_in, p1]
      show _ ∧ (a : Int) < xb_n h st
      omega
    · rw [z_le, p1, h3] at hl
      rw [mH_o s6, z_cl, p1, Int.toNat_natCast, s8 a p3 (by omega)]
      refine m_behindLead (fun _ => ?_)
      rw [mH_i]
      refine m_isGroup hs p1 rfl h3 p3 (by omega) he (fun r10 h10 _ => ⟨fun h0 => ?_, fun h0 h14 e14 => ?_⟩)
      · rw [mH_i]
        refine m_failR s1 hp (by decide) (fun v' g1 g2 _ => dead m v' g2 (hQ v' a g1 (fun h9 => absurd h9 g2) (fun _ ⟨q, ⟨e1, k, hu⟩, _⟩ => ?_)))
        have hg : ¬ grp cb a stop := by
          rcases h10 with h10 | h10
          · exact h10.2
          · rw [h10.1] at h0
            exact absurd h0 (by decide)
        cases k with
        | zero => exact hu.elim
        | succ k =>
          rcases hu with hu | hu
          · omega
          · exact absurd hu.2.1 hg
      · have hg : grp cb a stop := by
          rcases h10 with h10 | h10
          · exact absurd h10.1 h0
          · exact h10.2
        have hr := blb_r (ub cb a)
        have g0 := hg.1
        have g1 := hg.2.1
        obtain ⟨w, hw⟩ : ∃ w : Nat, (blb (ub cb a)).toInt = w := ⟨(blb (ub cb a)).toInt.toNat, by omega⟩
        have e1 : (v 15 + blb (ub cb a) + 1).toInt = (a + w + 1 : Nat) := z_ad1 p1 hw (by omega) (by omega)
        rw [mH_i, mH_I] at e14
        have e14' : h14 = mH h F mm (va_up v 15 (v 15 + blb (ub cb a) + 1)) := e14
        subst e14'
        have o1 : ro v (va_up v 15 (v 15 + blb (ub cb a) + 1)) a (a + w + 1) e := ⟨fun j j1 _ _ => by rw [xh_up, if_neg j1], by rw [xh_up, if_pos rfl]; exact e1, by omega, by omega, fun h9 => by rw [xh_up, if_neg (by omega)]; exact h9⟩
        refine ih (a + w + 1) _ (o1.P hp) (by omega) (by omega) (fun v2 p2' o2 f2 b2 => hQ v2 p2' (o1.tr o2) (fun h9 => ?_) (fun h9 ⟨q, ⟨e9, k, hu⟩, h8⟩ => b2 (by rw [xh_up, if_neg (by omega)]; exact h9) ⟨q, ⟨e9, ?_⟩, h8⟩))
        · obtain ⟨f3, k, f4⟩ := f2 h9
          exact ⟨f3, k + 1, .inr ⟨by omega, hg, by rw [hw]; exact f4⟩⟩
        · cases k with
          | zero => exact hu.elim
          | succ k =>
            rcases hu with hu | hu
            · omega
            · refine ⟨k, ?_⟩
              have := hu.2.2
              rw [hw] at this
              exact this
theorem Z_lim {x : Int64} {w : Int32} : x ≤ Int32.toInt64 w ↔ x.toInt ≤ w.toInt := by rw [Z_le, Z_of32]
theorem z_end (hp : rdP v b p e) (he : e ≤ 1000000) : (v 16 - v 15).toInt = e - p := by
  rw [z_sub, hp.1, hp.2.1]
  have := hp.2.2.2
  omega
theorem m_name {Qr : xb_H → Prop} (hs : rdH mm st N b e cb h F) (hp : rdP v b p e) (hQ : Sp0 h F mm v p e (fun q => rN cb p q) Qr) : w_M_name0 mm (mH h F mm v) Qr := by
  have s5 := hs.2.2.2.2.1
  have s7 := hs.2.2.2.2.2.2.1
  unfold w_M_name0
  refine ⟨hs.1, m_count hs hp (fun n v1 p1 o1 f1 b1 _ => ?_)⟩
  have P1 := o1.P hp
  have ez := z_end P1 (by omega)
  have dead : ∀ v2 : Nat → Int32, ro v1 v2 p1 p1 e → v2 17 ≠ 0 → (v 17 = 0 → (∃ q, rN cb p q ∧ q ≤ e) → False) → w_M_name0_L36 Qr mm n (mH h F mm v2) := fun v2 o2 hn hf => by
    unfold w_M_name0_L36
    rw [mH_i]
    exact ⟨hs.1, fun h9 => absurd h9 hn, fun _ => hQ v2 p1 (o1.tr o2) (fun h9 => absurd h9 hn) (fun h0 hx => (hf h0 hx).elim)⟩
  rw [mH_i]
  refine ⟨fun hn => dead v1 (ro.rf o1.2.1 o1.2.2.2.1) hn (fun h0 ⟨q, ⟨a, x, h7, h6, m, hu⟩, h8⟩ => hn (b1 h0 ⟨a, x, h7, by omega⟩)), fun hz => ⟨fun hl => ?_, fun hl => m_failR hs.1 P1 (by decide) (fun v2 g1 g2 _ => dead v2 g1 g2 (fun h0 ⟨q, ⟨a, x, h7, h6, m, hu⟩, h8⟩ => hl ?_))⟩⟩
  · have hc := f1 hz
    have hb := rC_b hc
    rw [Z_lim, ez] at hl
    unfold w_M_name0_L36
    rw [mH_i]
    refine ⟨hs.1, fun _ v3 e3 => ⟨(p1 + n.toInt.toNat) - p1 + 1 + 1, ?_⟩, fun hn => absurd hz hn⟩
    have e3' : v3.toInt = (p1 + n.toInt.toNat : Nat) := by
      have e4 : (Int64.toInt32 n).toInt = n.toInt := by
        rw [z_of64]
        omega
      have := P1.2.2.2
      rw [e3, z_add, P1.1, e4]
      omega
    refine m_nameL hs e3' (by omega) _ p1 v1 P1 (by omega) (Nat.le_refl _) (fun v2 p2 o2 f2 b2 => hQ v2 p2 (o1.tr o2) (fun h9 => ?_) (fun _ ⟨q, ⟨a, x, h7, h6, m, hu⟩, h8⟩ => b2 hz ⟨p1 + n.toInt.toNat, ⟨rfl, ?_⟩, by omega⟩))
    · obtain ⟨f3, k, f4⟩ := f2 h9
      exact ⟨p1, n, hc, f3, k, by rw [f3]; exact f4⟩
    · rw [hc] at h7
      simp only [Option.some.injEq, Prod.mk.injEq] at h7
      obtain ⟨e8, e9⟩ := h7
      subst e8 e9
      exact ⟨m, by rw [← h6]; exact hu⟩
  · have hc := f1 hz
    rw [hc] at h7
    simp only [Option.some.injEq, Prod.mk.injEq] at h7
    obtain ⟨e8, e9⟩ := h7
    subst e8 e9
    have hb := rC_b hc
    have := P1.2.2.2
    rw [Z_lim, ez]
    omega
theorem m_skip {x : Int64} {Qr : xb_H → Prop} (hs : rdH mm st N b e cb h F) (hp : rdP v b p e) (hx : v 17 = 0 → 0 ≤ x.toInt ∧ x.toInt < 4294967296) (hQ : Sp0 h F mm v p e (fun q => q = p + x.toInt.toNat) Qr) : w_M_skip mm x (mH h F mm v) Qr := by
  have s5 := hs.2.2.2.2.1
  have s7 := hs.2.2.2.2.2.2.1
  have p4 := hp.2.2.2
  have ez := z_end hp (by omega)
  have L : ∀ (v2 : Nat → Int32), ro v v2 p p e → (v2 17 = 0 → v2 = v ∧ (p : Int) + x.toInt ≤ e) → (v 17 = 0 → (∃ q, q = p + x.toInt.toNat ∧ q ≤ e) → v2 17 = 0) → w_M_skip_L31 Qr mm x (mH h F mm v2) := by
    intro v2 o2 g1 g2
    unfold w_M_skip_L31 w_M_skip_L53
    rw [mH_i]
    refine ⟨hs.1, fun hn => ⟨hs.1, fun h2 e2 => ?_⟩, fun hz => ⟨hs.1, fun h2 e2 => ?_⟩⟩
    · rw [mH_I] at e2
      subst e2
      refine hQ _ p ⟨fun j j1 j2 j3 => by rw [xh_up, if_neg j1]; exact o2.1 j j1 j2 j3, by rw [xh_up, if_pos rfl]; exact o2.2.1, Nat.le_refl p, p4, fun _ => by rw [xh_up, if_neg (by omega)]; exact hn⟩ (fun h9 => ?_) (fun h0 hx => by rw [xh_up, if_neg (by omega)]; exact g2 h0 hx)
      rw [xh_up, if_neg (by omega)] at h9
      exact absurd h9 hn
    · rw [mH_I] at e2
      subst e2
      obtain ⟨g3, g4⟩ := g1 hz
      subst g3
      obtain ⟨x1, x2⟩ := hx hz
      have e4 : (Int64.toInt32 x).toInt = x.toInt := by
        rw [z_of64]
        omega
      have e5 : (v2 15 + Int64.toInt32 x).toInt = (p + x.toInt.toNat : Nat) := by
        rw [z_add, hp.1, e4]
        omega
      exact hQ _ (p + x.toInt.toNat) ⟨fun j j1 j2 j3 => by rw [xh_up, if_neg j1], by rw [xh_up, if_pos rfl]; exact e5, by omega, by omega, fun h9 => absurd hz h9⟩ (fun _ => rfl) (fun _ _ => by rw [xh_up, if_neg (by omega)]; exact hz)
  unfold w_M_skip
  rw [mH_i]
  refine ⟨hs.1, fun hn => L v (ro.rf hp.1 p4) (fun h9 => absurd h9 hn) (fun h9 => absurd h9 hn), fun hz => ⟨fun hl => L v (ro.rf hp.1 p4) (fun _ => ⟨rfl, ?_⟩) (fun _ _ => hz), fun hl => m_failR hs.1 hp (by decide) (fun v' g1 g2 _ => L v' g1 (fun h9 => absurd h9 g2) (fun _ ⟨q, e9, h8⟩ => ?_))⟩⟩
  · rw [Z_lim, ez] at hl
    omega
  · obtain ⟨x1, x2⟩ := hx hz
    rw [Z_lim, ez] at hl
    omega
end MR4
