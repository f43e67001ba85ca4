-- the reference: where its arrays lie; the places of entries
def aL : List (Nat × Nat × Nat) := [(1, 100, 65536), (3, 100, 16384), (6, 102, 64), (7, 102, 64), (8, 102, 768), (9, 102, 768), (10, 102, 256), (11, 102, 0), (12, 102, 0), (19, 100, 70000), (21, 100, 70000), (24, 102, 202), (25, 102, 202), (26, 102, 202), (27, 102, 202), (28, 101, 202), (31, 102, 24), (32, 102, 24), (33, 102, 0), (35, 102, 24), (36, 102, 24), (37, 102, 24), (38, 102, 24), (39, 102, 4100), (40, 102, 4100), (41, 102, 4100), (44, 102, 8192), (45, 102, 8192), (48, 102, 24), (49, 102, 24), (50, 103, 24), (51, 102, 16384), (54, 102, 24), (55, 103, 24), (56, 102, 384), (57, 100, 1048576), (59, 102, 4096), (60, 101, 4096), (61, 103, 4096), (65, 103, 1000), (67, 103, 1000), (69, 102, 200), (70, 102, 200), (71, 102, 200), (72, 102, 200), (73, 102, 200), (74, 103, 18384), (75, 100, 18384), (77, 102, 40400), (78, 102, 40400), (79, 102, 40400), (80, 102, 40400), (86, 102, 4), (87, 103, 4096), (89, 102, 2), (90, 10, 0)]
/-- the reference's object mm and its arrays A -/
def mB (own : Nat → Nat) (mm : Nat) (A : Nat → Nat) (h : xb_H) : Prop :=
  own mm = 60 ∧ xb_k h mm = 9 ∧ ∀ e ∈ aL, xb_r h mm e.1 = some (A e.1) ∧ xb_k h (A e.1) = e.2.1 ∧ own (A e.1) = 61 + e.1 ∧ (e.2.2 = 0 ∨ xb_n h (A e.1) = e.2.2)
/-- what is not the reference's stays -/
def zT (own own' : Nat → Nat) (h : xb_H) (F : Nat → Nat → Int32) (h' : xb_H) (F' : Nat → Nat → Int32) : Prop :=
  (∀ a, xb_k h a ≠ 0 → xb_k h' a ≠ 0 ∧ own' a = own a) ∧ ∀ a, own a < 60 → xb_k h a ≠ 0 → xb_k h' a = xb_k h a ∧ xb_n h' a = xb_n h a ∧ xb_l h' a = xb_l h a ∧ xb_r h' a = xb_r h a ∧ F' a = F a
section MB1
variable {own own' own2 : Nat → Nat} {mm : Nat} {A A' A2 : Nat → Nat} {h h' h2 : xb_H} {F F' F2 : Nat → Nat → Int32} {v v' : Nat → Int32}
theorem mB.g (hB : mB own mm A h) {k kd n : Nat} (hm : (k, kd, n) ∈ aL) : xb_r h mm k = some (A k) ∧ xb_k h (A k) = kd ∧ own (A k) = 61 + k ∧ (n = 0 ∨ xb_n h (A k) = n) := hB.2.2 (k, kd, n) hm
theorem mB.ne (hB : mB own mm A h) {j k : Nat} (hj : ∃ e ∈ aL, e.1 = j) (hk : ∃ e ∈ aL, e.1 = k) (hjk : j ≠ k) : A j ≠ A k := fun e => by
  obtain ⟨e1, h1, rfl⟩ := hj
  obtain ⟨e2, h2, rfl⟩ := hk
  have g1 := (hB.2.2 e1 h1).2.2.1
  have g2 := (hB.2.2 e2 h2).2.2.1
  rw [e] at g1
  omega
theorem mB.nm (hB : mB own mm A h) {j : Nat} (hj : ∃ e ∈ aL, e.1 = j) : A j ≠ mm := fun e => by
  obtain ⟨e1, h1, rfl⟩ := hj
  have g1 := (hB.2.2 e1 h1).2.2.1
  rw [e, hB.1] at g1
  omega
theorem zT.rf : zT own own h F h F := ⟨fun a ha => ⟨ha, rfl⟩, fun a _ _ => ⟨rfl, rfl, rfl, rfl, rfl⟩⟩
theorem zT.tr (h1 : zT own own' h F h' F') (h2' : zT own' own2 h' F' h2 F2) : zT own own2 h F h2 F2 := by
  refine ⟨fun a ha => ?_, fun a ha hk => ?_⟩
  · obtain ⟨g1, g2⟩ := h1.1 a ha
    obtain ⟨g3, g4⟩ := h2'.1 a g1
    exact ⟨g3, g4.trans g2⟩
  · obtain ⟨g1, g2⟩ := h1.1 a hk
    obtain ⟨e1, e2, e3, e4, e5⟩ := h1.2 a ha hk
    obtain ⟨f1, f2, f3, f4, f5⟩ := h2'.2 a (by omega) g1
    exact ⟨f1.trans e1, f2.trans e2, f3.trans e3, f4.trans e4, f5.trans e5⟩
/-- an array of its own gets other numbers -/
theorem zT.up {a : Nat} {f : Nat → Int32} (ha : 60 ≤ own a) : zT own own h F h (va_up F a f) :=
  ⟨fun a ha => ⟨ha, rfl⟩, fun b hb _ => ⟨rfl, rfl, rfl, rfl, by rw [xh_up, if_neg (fun e => by rw [e] at hb; omega)]⟩⟩
theorem zT.Lm {a k : Nat} {x : Int64} (ha : 60 ≤ own a) : zT own own h F (xb_L h a k x) F :=
  ⟨fun a ha => ⟨ha, rfl⟩, fun b hb _ => ⟨rfl, rfl, by rw [xh_lL, if_neg (fun e => by rw [e] at hb; omega)], rfl, rfl⟩⟩
theorem zT.new {q kd n : Nat} {f : Nat → Int32} {t : Nat} (hq : xb_k h q = 0) (hkd : kd ≠ 0) (hn : own' = fun a => if a = q then t else own a) : zT own own' h F (xb_new h q kd n) (va_up F q f) := by
  have ne : ∀ a, xb_k h a ≠ 0 → a ≠ q := fun a ha e => ha (by rw [e]; exact hq)
  subst hn
  refine ⟨fun a ha => ⟨by rw [xh_kN, if_neg (ne a ha)]; exact ha, if_neg (ne a ha)⟩, fun a _ ha => ⟨by rw [xh_kN, if_neg (ne a ha)], by rw [xh_nN, if_neg (ne a ha)], by rw [xh_lN, if_neg (ne a ha)], by rw [xh_rN, if_neg (ne a ha)], by rw [xh_up, if_neg (ne a ha)]⟩⟩
theorem zT.P {k : Nat} {x : Option Nat} (hm : 60 ≤ own mm) : zT own own h F (xb_P h mm k x) F :=
  ⟨fun a ha => ⟨ha, rfl⟩, fun b hb _ => ⟨rfl, rfl, rfl, by rw [xh_rP, if_neg (fun e => by rw [e] at hb; omega)], rfl⟩⟩
theorem mB.Lm (hB : mB own mm A h) {a k : Nat} {x : Int64} : mB own mm A (xb_L h a k x) := hB
theorem mH_N {q kd n : Nat} (hq : q ≠ mm) : xb_new (mH h F mm v) q kd n = mH (xb_new h q kd n) (va_up F q (fun _ => 0)) mm v := by
  show (_, _, _, _, _) = (_, _, _, _, _)
  refine Prod.ext rfl (Prod.ext rfl (Prod.ext ?_ rfl))
  funext b
  show (if b = q then (fun _ => 0) else va_up F mm v b) = va_up (va_up F q (fun _ => 0)) mm v b
  rw [xh_up, xh_up, xh_up]
  by_cases h1 : b = q
  · subst h1
    rw [if_pos rfl, if_neg hq, if_pos rfl]
  · rw [if_neg h1, if_neg h1]
/-- a new array in the place of k -/
theorem mB.sw (hB : mB own mm A h) {q k kd n : Nat} (hk : (k, kd, 0) ∈ aL) (hu : ∀ e ∈ aL, e.1 = k → e.2 = (kd, 0)) (hkd : kd ≠ 0) (hq : xb_k h q = 0) : mB (fun a => if a = q then 61 + k else own a) mm (va_up A k q) (xb_P (xb_new h q kd n) mm k (some q)) := by
  obtain ⟨h1, h2, h3⟩ := hB
  have nq : ∀ a, xb_k h a ≠ 0 → a ≠ q := fun a ha e => ha (by rw [e]; exact hq)
  have qm := nq mm (by omega)
  refine ⟨by dsimp only; rw [if_neg qm]; exact h1, by show xb_k (xb_new h q kd n) mm = 9; rw [xh_kN, if_neg qm]; exact h2, fun e he => ?_⟩
  obtain ⟨g1, g2, g3, g4⟩ := h3 e he
  rw [xh_rP, if_pos rfl, xh_rN, if_neg qm, xh_up, xh_up]
  by_cases hek : e.1 = k
  · rw [if_pos hek, if_pos hek, hu e he hek]
    refine ⟨rfl, ?_, ?_, .inl rfl⟩
    · show xb_k (xb_new h q kd n) q = kd
      rw [xh_kN, if_pos rfl]
    · dsimp only
      rw [if_pos rfl, hek]
  · rw [if_neg hek, if_neg hek]
    have na : A e.1 ≠ q := nq _ (by
      rw [g2]
      have : ∀ e ∈ aL, e.2.1 ≠ 0 := by decide
      exact this e he)
    refine ⟨g1, ?_, ?_, ?_⟩
    · show xb_k (xb_new h q kd n) (A e.1) = _
      rw [xh_kN, if_neg na]
      exact g2
    · dsimp only
      rw [if_neg na]
      exact g3
    · show _ ∨ xb_n (xb_new h q kd n) (A e.1) = _
      rw [xh_nN, if_neg na]
      exact g4
theorem mB.pk (hB : mB own mm A h) : ∀ e ∈ aL, xb_k h (A e.1) ≠ 0 := fun e he => by
  rw [(hB.2.2 e he).2.1]
  have : ∀ e ∈ aL, e.2.1 ≠ 0 := by decide
  exact this e he
end MB1
