-- the reference's reader: its methods
/-- the heap h, its numbers F, the object mm's own v -/
def mH (h : xb_H) (F : Nat → Nat → Int32) (mm : Nat) (v : Nat → Int32) : xb_H := xb_W h (va_up F mm v)
/-- bytes that can be read: from b to e they are cb -/
def rdH (mm st N b e : Nat) (cb : Nat → Int32) (h : xb_H) (F : Nat → Nat → Int32) : Prop :=
  xb_k h mm = 9 ∧ xb_r h mm 3 = some st ∧ xb_k h st = 100 ∧ xb_n h st = N ∧ N ≤ 1000000 ∧ st ≠ mm ∧ e ≤ N ∧ ∀ j, b ≤ j → j < e → F st j = cb j
def rdP (v : Nat → Int32) (b p e : Nat) : Prop := (v 15).toInt = p ∧ (v 16).toInt = e ∧ b ≤ p ∧ p ≤ e
/-- what reading does to the object's numbers -/
def ro (v v' : Nat → Int32) (p p' e : Nat) : Prop := (∀ j, j ≠ 15 → j ≠ 17 → j ≠ 18 → v' j = v j) ∧ (v' 15).toInt = p' ∧ p ≤ p' ∧ p' ≤ e ∧ (v 17 ≠ 0 → v' 17 ≠ 0)
/-- what reading gives: right, and the code stays 0, or wrong -/
def Sp {ρ : Type} (h : xb_H) (F : Nat → Nat → Int32) (mm : Nat) (v : Nat → Int32) (p e : Nat) (R : Nat → ρ → Prop) (Q : ρ → xb_H → Prop) : Prop :=
  ∀ (r : ρ) (v' : Nat → Int32) (p' : Nat), ro v v' p p' e → (v' 17 = 0 → R p' r) → (v 17 = 0 → (∃ q x, R q x ∧ q ≤ e) → v' 17 = 0) → Q r (mH h F mm v')
def Sp0 (h : xb_H) (F : Nat → Nat → Int32) (mm : Nat) (v : Nat → Int32) (p e : Nat) (R : Nat → Prop) (Q : xb_H → Prop) : Prop :=
  ∀ (v' : Nat → Int32) (p' : Nat), ro v v' p p' e → (v' 17 = 0 → R p') → (v 17 = 0 → (∃ q, R q ∧ q ≤ e) → v' 17 = 0) → Q (mH h F mm v')
section MR3
variable {h : xb_H} {F : Nat → Nat → Int32} {mm st N b e p p' q : Nat} {cb v v' v2 : Nat → Int32}
theorem mH_i : xb_i (mH h F mm v) mm = v := by
  show va_up F mm v mm = v
  rw [xh_up, if_pos rfl]
theorem mH_o {a : Nat} (ha : a ≠ mm) : xb_i (mH h F mm v) a = F a := by
  show va_up F mm v a = F a
  rw [xh_up, if_neg ha]
theorem mH_I {k : Nat} {x : Int32} : xb_I (mH h F mm v) mm k x = mH h F mm (va_up v k x) := by
  show xb_W h (va_up (va_up F mm v) mm (va_up (va_up F mm v mm) k x)) = _
  rw [bx_uu, xh_up, if_pos rfl]
  rfl
theorem mH_A {a k : Nat} {x : Int32} (ha : a ≠ mm) : xb_I (mH h F mm v) a k x = mH h (va_up F a (va_up (F a) k x)) mm v := by
  show xb_W h (va_up (va_up F mm v) a (va_up (va_up F mm v a) k x)) = xb_W h (va_up (va_up F a (va_up (F a) k x)) mm v)
  rw [xh_up, if_neg ha]
  congr 1
  funext j
  simp only [xh_up]
  by_cases h1 : j = a
  · subst h1
    rw [if_pos rfl, if_neg ha, if_pos rfl]
  · rw [if_neg h1, if_neg h1]
theorem ro.rf (h1 : (v 15).toInt = p) (h2 : p ≤ e) : ro v v p p e := ⟨fun _ _ _ _ => rfl, h1, Nat.le_refl p, h2, fun h => h⟩
theorem ro.tr (h1 : ro v v' p p' e) (h2 : ro v' v2 p' q e) : ro v v2 p q e := ⟨fun j a b c => (h2.1 j a b c).trans (h1.1 j a b c), h2.2.1, Nat.le_trans h1.2.2.1 h2.2.2.1, h2.2.2.2.1, fun h => h2.2.2.2.2 (h1.2.2.2.2 h)⟩
theorem ro.P (h1 : ro v v' p p' e) (hp : rdP v b p e) : rdP v' b p' e := ⟨h1.2.1, by rw [h1.1 16 (by omega) (by omega) (by omega)]; exact hp.2.1, Nat.le_trans hp.2.2.1 h1.2.2.1, h1.2.2.2.1⟩
theorem ro.z (h1 : ro v v' p p' e) (h2 : v' 17 = 0) : v 17 = 0 := Classical.byContradiction (fun h => h1.2.2.2.2 h h2)
theorem m_fail {c x : Int32} {Qr : xb_H → Prop} (hk : xb_k h mm = 9) (hc : c ≠ 0) (hQ : ∀ v' : Nat → Int32, (∀ j, j ≠ 17 → j ≠ 18 → v' j = v j) → v' 17 ≠ 0 → Qr (mH h F mm v')) : w_M_fail mm c x (mH h F mm v) Qr := by
  unfold w_M_fail w_M_fail_L22
  refine ⟨hk, ?_, ?_⟩
  · rw [mH_i]
    exact fun hn => hQ v (fun _ _ _ => rfl) hn
  · rw [mH_i]
    intro _ h3 e3 h4 e4
    subst e3
    rw [mH_I] at e4
    subst e4
    rw [mH_i, mH_I]
    refine hQ _ (fun j h1 h2 => ?_) ?_
    · rw [xh_up, if_neg h2, xh_up, if_neg h1]
    · rw [xh_up, if_neg (by omega), xh_up, if_pos rfl]
      exact hc
/-- failing here -/
theorem m_failR {c x : Int32} {Qr : xb_H → Prop} (hk : xb_k h mm = 9) (hp : rdP v b p e) (hc : c ≠ 0) (hQ : ∀ v' : Nat → Int32, ro v v' p p e → v' 17 ≠ 0 → Qr (mH h F mm v')) : w_M_fail mm c x (mH h F mm v) Qr :=
  m_fail hk hc (fun v' h1 h2 => hQ v' ⟨fun j _ h4 h5 => h1 j h4 h5, by rw [h1 15 (by omega) (by omega)]; exact hp.1, Nat.le_refl p, hp.2.2.2, fun _ => h2⟩ h2)
theorem m_next {Qr : Int32 → xb_H → Prop} (hs : rdH mm st N b e cb h F) (hp : rdP v b p e) (hQ : Sp h F mm v p e (fun q r => q = p + 1 ∧ r = ub cb p) Qr) : w_M_next mm (mH h F mm v) Qr := by
  obtain ⟨s1, s2, s3, s4, s5, s6, s7, s8⟩ := id hs
  obtain ⟨p1, p2, p3, p4⟩ := id hp
  unfold w_M_next
  rw [mH_i]
  refine ⟨s1, fun hl => ⟨st, s2, s3, ?_, fun v6 e6 h7 e7 => ?_⟩, fun hl => m_failR s1 hp (by decide) (fun v' g1 g2 _ => hQ 0 v' p g1 (fun h9 => absurd h9 g2) (fun _ ⟨q, x, ⟨h9, _⟩, h8⟩ => ?_))⟩
  · rw [z_lt, p1, p2] at hl
    rw [z_in, p1]
    show _ ∧ (p : Int) < xb_n h st
    omega
  · rw [z_lt, p1, p2] at hl
    rw [mH_I] at e7
    rw [mH_o s6, z_cl, p1] at e6
    subst e7
    refine hQ v6 _ (p + 1) ⟨fun j h1 _ _ => by rw [xh_up, if_neg h1], ?_, by omega, by omega, fun h9 => by rw [xh_up, if_neg (by omega)]; exact h9⟩ (fun _ => ⟨rfl, ?_⟩) (fun h9 _ => by rw [xh_up, if_neg (by omega)]; exact h9)
    · rw [xh_up, if_pos rfl]
      exact z_inc p1 (by omega)
    · rw [e6]
      unfold ub
      rw [← s8 p p3 (by omega)]
      rfl
  · rw [z_lt, p1, p2] at hl
    omega
theorem m_isType {x : Int32} {g : xb_H} {Qr : Int32 → xb_H → Prop} (hQ : ∀ r : Int32, (r = 0 ∧ ¬ (¬ x < 124 ∧ ¬ 127 < x)) ∨ (r = 1 ∧ ¬ x < 124 ∧ ¬ 127 < x) → Qr r g) : w_M_isType x g Qr := by
  unfold w_M_isType w_M_isType_L16 w_M_isType_L17
  exact ⟨fun h1 => ⟨.inl rfl, hQ 0 (.inl ⟨rfl, fun h9 => h9.1 h1⟩)⟩, fun h1 => ⟨fun h2 => ⟨.inl rfl, hQ 0 (.inl ⟨rfl, fun h9 => h9.2 h2⟩)⟩, fun h2 => ⟨.inr rfl, hQ 1 (.inr ⟨rfl, h1, h2⟩)⟩⟩⟩
theorem m_valueType {Qr : xb_H → Prop} (hs : rdH mm st N b e cb h F) (hp : rdP v b p e) (hQ : Sp0 h F mm v p e (fun q => q = p + 1 ∧ ¬ ub cb p < 124 ∧ ¬ 127 < ub cb p) Qr) : w_M_valueType mm (mH h F mm v) Qr := by
  unfold w_M_valueType w_M_valueType_L30
  refine ⟨hs.1, m_next hs hp (fun r v1 p1 o1 f1 b1 _ => ?_)⟩
  rw [mH_i]
  refine ⟨fun hn => hQ v1 p1 o1 (fun h9 => absurd h9 hn) (fun h0 ⟨q, ⟨h8, h7⟩, h9⟩ => b1 h0 ⟨q, _, ⟨h8, rfl⟩, h9⟩), fun hz => m_isType (fun r6 h6 _ => ⟨fun hn => ?_, fun h0 => ?_⟩)⟩
  · obtain ⟨f2, f3⟩ := f1 hz
    rcases h6 with h6 | h6
    · exact absurd h6.1 hn
    · rw [f3] at h6
      exact hQ v1 p1 o1 (fun _ => ⟨f2, h6.2⟩) (fun _ _ => hz)
  · rw [mH_i]
    obtain ⟨f2, f3⟩ := f1 hz
    refine m_failR hs.1 (o1.P hp) (by decide) (fun v' g1 g2 _ => hQ v' p1 (o1.tr g1) (fun h9 => absurd h9 g2) (fun _ ⟨q, ⟨h8, h7⟩, h9⟩ => ?_))
    rcases h6 with h6 | h6
    · rw [f3] at h6
      exact absurd h7 h6.2
    · rw [h6.1] at h0
      exact absurd h0 (by decide)
theorem m_wanted {x1 x2 : Int32} {Qr : xb_H → Prop} (hs : rdH mm st N b e cb h F) (hp : rdP v b p e) (hQ : Sp0 h F mm v p e (fun q => q = p + 1 ∧ ¬ ub cb p < x1 ∧ ub cb p ≤ x2) Qr) : w_M_wanted mm x1 x2 (mH h F mm v) Qr := by
  unfold w_M_wanted w_M_wanted_L33
  refine ⟨hs.1, m_next hs hp (fun r v1 p1 o1 f1 b1 _ => ?_)⟩
  rw [mH_i]
  refine ⟨fun hn => hQ v1 p1 o1 (fun h9 => absurd h9 hn) (fun h0 ⟨q, ⟨h8, h7⟩, h9⟩ => b1 h0 ⟨q, _, ⟨h8, rfl⟩, h9⟩), fun hz => ?_⟩
  obtain ⟨f2, f3⟩ := f1 hz
  subst f3
  have bad : ¬ (¬ ub cb p < x1 ∧ ub cb p ≤ x2) → w_M_wanted_L22 Qr mm (mH h F mm v1) := fun hb => by
    unfold w_M_wanted_L22 w_M_wanted_L33
    rw [mH_i]
    exact ⟨hs.1, m_failR hs.1 (o1.P hp) (by decide) (fun v' g1 g2 _ => hQ v' p1 (o1.tr g1) (fun h9 => absurd h9 g2) (fun _ ⟨q, ⟨h8, h7⟩, h9⟩ => absurd h7 hb))⟩
  exact ⟨fun h1 => bad (fun h9 => h9.1 h1), fun h1 => ⟨fun h2 => hQ v1 p1 o1 (fun _ => ⟨f2, h1, h2⟩) (fun _ _ => hz), fun h2 => bad (fun h9 => h2 h9.2)⟩⟩
theorem m_countL {Qr : Int64 → xb_H → Prop} (hs : rdH mm st N b e cb h F) : ∀ (m : Nat) (x1 : Int64) (x3 : Int32) (v : Nat → Int32) (p : Nat), x3.toInt = 4 - m → m ≤ 4 → rdP v b p e → Sp h F mm v p e (fun q x => rdc cb (m + 1) p x1 x3 = some (q, x)) Qr → w_M_count_L4 Qr (m + 1) mm x1 x3 (mH h F mm v) := by
  intro m
  have far : ∀ (v : Nat → Int32) (p m : Nat) (x1 : Int64) (x3 : Int32), ¬ (∃ q x, (q = p + 1 ∧ x = ub cb p) ∧ q ≤ e) → rdc cb (m + 1) p x1 x3 = rdc cb (m + 1) p x1 x3 → ∀ q x, rdc cb (m + 1) p x1 x3 = some (q, x) → m ≤ 4 → p < q → ¬ q ≤ e := fun v p m x1 x3 hn _ q x _ _ hlt hle => hn ⟨p + 1, _, ⟨rfl, rfl⟩, by omega⟩
  have lt : ∀ (m p : Nat) (x1 : Int64) (x3 : Int32) (q : Nat) (x : Int64), rdc cb m p x1 x3 = some (q, x) → p < q := by
    intro m
    induction m with
    | zero => intro p x1 x3 q x h9; cases h9
    | succ m ih =>
      intro p x1 x3 q x h9
      unfold rdc at h9
      split at h9
      · cases h9
      · split at h9
        · have := ih _ _ _ _ _ h9
          omega
        · simp only [Option.some.injEq, Prod.mk.injEq] at h9
          omega
  induction m with
  | zero =>
    intro x1 x3 v p e1 e2 hp hQ
    unfold w_M_count_L4
    refine ⟨fun h9 => ?_, fun h9 => ⟨hs.1, m_next hs hp (fun r v1 p1 o1 f1 b1 _ => ?_)⟩⟩
    · rw [z_le] at h9
      simp only [Int32.reduceToInt] at h9
      omega
    · rw [mH_i]
      have e3 : x3 = 4 := by rw [z_eq, e1]; rfl
      unfold w_M_count_L45
      rw [mH_i]
      refine ⟨fun hn => ⟨hs.1, fun hz => absurd hz hn, fun _ => hQ 0 v1 p1 o1 (fun hz => absurd hz hn) (fun h0 ⟨q, x, h7, h8⟩ => b1 h0 ⟨p + 1, _, ⟨rfl, rfl⟩, by have := lt _ _ _ _ _ _ h7; omega⟩)⟩, fun hz => ⟨fun h4 => absurd e3 h4, fun _ => ⟨fun h15 => ⟨hs.1, fun _ v3 e3' => ⟨fun h128 => ?_, fun h128 => ?_⟩, fun hn => absurd hz hn⟩, fun h15 => m_failR hs.1 (o1.P hp) (by decide) (fun v' g1 g2 _ => ?_)⟩⟩⟩
      · rw [z_le] at h128 h15
        simp only [Int32.reduceToInt] at h128 h15
        omega
      · obtain ⟨f2, f3⟩ := f1 hz
        subst f3
        refine hQ v3 v1 p1 o1 (fun _ => ?_) (fun _ _ => hz)
        unfold rdc
        rw [if_neg (fun h9 => h9.2 h15), if_neg h128, f2, e3']
      · rw [mH_i]
        refine ⟨hs.1, fun h9 => absurd h9 g2, fun _ => hQ 0 v' p1 (o1.tr g1) (fun h9 => absurd h9 g2) (fun h0 ⟨q, x, h7, h8⟩ => ?_)⟩
        obtain ⟨f2, f3⟩ := f1 hz
        subst f3
        unfold rdc at h7
        rw [if_pos ⟨e3, h15⟩] at h7
        cases h7
  | succ m ih =>
    intro x1 x3 v p e1 e2 hp hQ
    unfold w_M_count_L4
    refine ⟨fun h9 => ?_, fun h9 => ⟨hs.1, m_next hs hp (fun r v1 p1 o1 f1 b1 _ => ?_)⟩⟩
    · rw [z_le] at h9
      simp only [Int32.reduceToInt] at h9
      omega
    · rw [mH_i]
      have e3 : ¬ x3 = 4 := by rw [z_eq, e1]; simp only [Int32.reduceToInt]; omega
      unfold w_M_count_L45
      rw [mH_i]
      refine ⟨fun hn => ⟨hs.1, fun hz => absurd hz hn, fun _ => hQ 0 v1 p1 o1 (fun hz => absurd hz hn) (fun h0 ⟨q, x, h7, h8⟩ => b1 h0 ⟨p + 1, _, ⟨rfl, rfl⟩, by have := lt _ _ _ _ _ _ h7; omega⟩)⟩, fun hz => ⟨fun h4 => ⟨hs.1, fun _ v3 e3' => ⟨fun h128 => ?_, fun h128 => ?_⟩, fun hn => absurd hz hn⟩, fun h4 => absurd h4 e3⟩⟩
      · obtain ⟨f2, f3⟩ := f1 hz
        subst f3 f2
        have hr : rdc cb (m + 1 + 1) p x1 x3 = rdc cb (m + 1) (p + 1) v3 (x3 + 1) := by
          conv => lhs; unfold rdc
          rw [if_neg (fun h9 => e3 h9.1), if_pos h128, e3']
        refine ih v3 (x3 + 1) v1 (p + 1) ?_ (by omega) (o1.P hp) (fun r' v' p' o' g1 g2 => hQ r' v' p' (o1.tr o') (fun h9 => by rw [hr]; exact g1 h9) (fun _ h9 => g2 hz (by rw [hr] at h9; exact h9)))
        rw [z_add, e1]
        simp only [Int32.reduceToInt]
        omega
      · obtain ⟨f2, f3⟩ := f1 hz
        subst f3
        refine hQ v3 v1 p1 o1 (fun _ => ?_) (fun _ _ => hz)
        unfold rdc
        rw [if_neg (fun h9 => e3 h9.1), if_neg h128, f2, e3']
theorem m_count {Qr : Int64 → xb_H → Prop} (hs : rdH mm st N b e cb h F) (hp : rdP v b p e) (hQ : Sp h F mm v p e (fun q x => rC cb p = some (q, x)) Qr) : w_M_count mm (mH h F mm v) Qr := by
  unfold w_M_count
  exact ⟨5, m_countL hs 4 0 0 v p rfl (by omega) hp hQ⟩
end MR3
