-- the reference from outside: the simple calls
def aRY : List Nat := [3, 6, 7, 8, 9, 10, 11, 12, 31, 32, 33, 35, 36, 37, 38, 39, 40, 41, 44, 45, 48, 49, 51, 54, 56, 59]
def vRY : List Nat := [4, 5, 13, 30, 34, 42, 43, 46, 47, 52, 53, 58]
def vW1 : List Nat := [2, 4, 5, 13, 17, 30, 34, 42, 43, 46, 47, 52, 53, 58, 66, 84, 88, 93, 94]
def RY (φ : Nat → Nat → Int32) (ν : Nat → Int32) (len : Nat) (DM : Nat → zM) : Prop := W2 φ ν len DM ∧ W3 φ ν DM ∧ W4 φ ν DM
def cutAY (φ : Nat → Nat → Int32) (k : Nat) : Nat → Int32 := if k ∈ aRY then φ k else fun _ => 0
def cutVY (ν : Nat → Int32) (k : Nat) : Int32 := if k ∈ vRY then ν k else 0
section MW30
variable {φ φ' : Nat → Nat → Int32} {ν ν' : Nat → Int32} {DM : Nat → zM} {len K : Nat}
theorem RY_cut : RY φ ν len DM ↔ RY (cutAY φ) (cutVY ν) len DM := and_congr Iff.rfl (and_congr Iff.rfl Iff.rfl)
theorem RY.cg (hI : RY φ ν len DM) (h1 : ∀ k, k ∈ aRY → φ' k = φ k) (h2 : ∀ k, k ∈ vRY → ν' k = ν k) : RY φ' ν' len DM := by
  have e1 : cutAY φ' = cutAY φ := funext fun k => by
    unfold cutAY
    split
    · exact h1 k (by assumption)
    · rfl
  have e2 : cutVY ν' = cutVY ν := funext fun k => by
    unfold cutVY
    split
    · exact h2 k (by assumption)
    · rfl
  rw [RY_cut, e1, e2, ← RY_cut]
  exact hI
theorem RX.Y (hI : RX φ ν len DM) : RY φ ν len DM := ⟨hI.1, hI.2.1, hI.2.2.1⟩
theorem RY.X (hI : RY φ ν len DM) (h5 : W5 φ ν DM) : RX φ ν len DM := ⟨hI.1, hI.2.1, hI.2.2, h5⟩
theorem W1.c1 (hI : W1 ν K) (h2 : ∀ k, k ∈ vW1 → ν' k = ν k) : W1 ν' K := by
  obtain ⟨a1, a2, a3, a4, a5, a6, a7, a8⟩ := hI
  have e : ∀ k, k ∈ vW1 → vN ν' k = vN ν k := fun k hk => by
    unfold vN
    rw [h2 k hk]
  refine ⟨fun x hx => ?_, ?_, ?_, ?_, ?_, ?_, ?_, ?_⟩
  · have : ∀ x ∈ wB, x.1 ∈ vW1 := by decide
    rw [h2 x.1 (this x hx)]
    exact a1 x hx
  · rw [h2 17 (by decide), h2 84 (by decide), h2 94 (by decide)]; exact a2
  · rw [e 4 (by decide), e 2 (by decide)]; exact a3
  · rw [e 42 (by decide)]; exact a4
  · rw [e 13 (by decide), e 4 (by decide)]; exact a5
  · rw [e 46 (by decide), e 30 (by decide)]; exact a6
  · rw [e 52 (by decide), e 30 (by decide)]; exact a7
  · rw [e 34 (by decide), e 30 (by decide)]; exact a8
end MW30
section MW3
variable {own : Nat → Nat} {mm m : Nat} {A : Nat → Nat} {h h' h2 : xb_H} {F F' F2 : Nat → Nat → Int32} {v v' v2 : Nat → Int32} {D : zM} {DM : Nat → zM} {len rl K : Nat} {Qr : Int32 → xb_H → Prop}
theorem r_outs (hA : rA own mm A h F v DM len rl (K + 1)) (hQ : rA own mm A h F (va_up v 0 0) DM len rl K → Qr (v 88) (mH h F mm (va_up v 0 0))) : w_M_outs mm (mH h F mm v) Qr := by
  unfold w_M_outs
  refine ⟨hA.B.2.1, fun h2 e2 => ?_⟩
  rw [mH_I] at e2
  subst e2
  rw [mH_i, xh_up, if_neg (by decide)]
  exact hQ (hA.dn.u (by decide))
theorem r_thrown (hA : rA own mm A h F v DM len rl K) (hQ : Qr (v 0) (mH h F mm v)) : w_M_thrown mm (mH h F mm v) Qr := by
  unfold w_M_thrown
  rw [mH_i]
  exact ⟨hA.B.2.1, hQ⟩
theorem r_wrong (hA : rA own mm A h F v DM len rl (K + 1)) (hQ : rA own mm A h F (va_up v 0 0) DM len rl K → Qr 0 (mH h F mm (va_up v 0 0))) : w_M_wrong mm (mH h F mm v) Qr := by
  unfold w_M_wrong
  refine ⟨hA.B.2.1, fun h2 e2 => ?_⟩
  rw [mH_I] at e2
  subst e2
  rw [mH_i, xh_up, if_neg (by decide), hA.W1.2.1.2.1]
  exact hQ (hA.dn.u (by decide))
theorem r_result {Ql : Int64 → xb_H → Prop} (hA : rA own mm A h F v DM len rl (K + 1)) (hQ : rA own mm A h F (va_up v 0 0) DM len rl K → Ql (xb_l h mm 85) (mH h F mm (va_up v 0 0))) : w_M_result mm (mH h F mm v) Ql := by
  unfold w_M_result
  refine ⟨hA.B.2.1, fun h2 e2 => ?_⟩
  rw [mH_I] at e2
  subst e2
  exact hQ (hA.dn.u (by decide))
theorem r_calls (hA : rA own mm A h F v DM len rl (K + 1)) (hQ : rA own mm A h F (va_up v 0 0) DM len rl K → Qr (if v 62 ≠ 0 ∧ v 63 ≠ 0 then v 68 else 0) (mH h F mm (va_up v 0 0))) : w_M_calls mm (mH h F mm v) Qr := by
  unfold w_M_calls w_M_calls_L26 w_M_calls_L27
  refine ⟨hA.B.2.1, fun h2 e2 => ?_⟩
  rw [mH_I] at e2
  subst e2
  have := hQ (hA.dn.u (k := 0) (x := 0) (by decide))
  rw [mH_i, xh_up, if_neg (by decide), xh_up, if_neg (by decide), xh_up, if_neg (by decide)]
  refine ⟨fun e => ?_, fun e => ⟨fun e2 => ?_, fun e2 => ?_⟩⟩
  · rw [if_neg (fun h9 => h9.1 e)] at this
    exact this
  · rw [if_neg (fun h9 => h9.2 e2)] at this
    exact this
  · rw [if_pos ⟨e, e2⟩] at this
    exact this
theorem r_out {x1 : Int32} {Ql : Int64 → xb_H → Prop} (hA : rA own mm A h F v DM len rl (K + 1)) (hQ0 : ∀ j : Nat, x1.toInt = j → j < vN v 88 → rA own mm A h F (va_up v 0 0) DM len rl K → Ql (xb_l h (A 87) j) (mH h F mm (va_up v 0 0))) (hQ1 : byd (vN v 88) x1 → rA own mm A h F (va_up v 0 1) DM len rl K → Ql 0 (mH h F mm (va_up v 0 1))) : w_M_out mm x1 (mH h F mm v) Ql := by
  have hB := hA.B
  obtain ⟨b1, b2, b3, b4⟩ := hB.kx (k := 87) (kd := 103) (n := 4096) (by decide) (by decide)
  obtain ⟨n2, n2'⟩ := hA.n (k := 88) (b := 4096) (by decide)
  have L18 : ∀ y0 : Int32, (y0 = 0 ∧ 0 ≤ x1.toInt ∧ x1.toInt < vN v 88) ∨ (y0 = 1 ∧ byd (vN v 88) x1) → w_M_out_L18 Ql mm x1 y0 mm (mH h F mm v) := by
    intro y0 hy
    unfold w_M_out_L18 w_M_out_L38
    refine ⟨hB.2.1, fun h2 e2 => ?_⟩
    rw [mH_I] at e2
    subst e2
    rw [mH_i, xh_up, if_pos rfl]
    rcases hy with ⟨e0, e1, e2⟩ | ⟨e0, e1⟩
    · subst e0
      refine ⟨hB.2.1, fun hle => ⟨A 87, b1, b2, ?_, ?_⟩, fun h9 => absurd (by decide) h9⟩
      · rw [z_in]
        show _ ∧ _ < ((xb_n h (A 87) : Nat) : Int)
        omega
      · have := hQ0 x1.toInt.toNat (by omega) (by omega) (hA.dn.u (by decide))
        rw [z_cl]
        exact this
    · subst e0
      exact ⟨hB.2.1, fun h9 => absurd h9 (by decide), fun _ => hQ1 e1 (hA.dn.u (by decide))⟩
  unfold w_M_out w_M_out_L17
  rw [mH_i]
  refine ⟨fun h0 => L18 1 (.inr ⟨rfl, .inl (z_lt.mp h0)⟩), fun h0 => ⟨hB.2.1, fun h1 => L18 1 (.inr ⟨rfl, .inr (by rw [z_le, n2] at h1; exact h1)⟩), fun h1 => L18 0 (.inl ⟨rfl, ?_⟩)⟩⟩
  rw [z_lt] at h0
  rw [z_le, n2] at h1
  simp only [Int32.reduceToInt] at h0
  omega
theorem r_trap {x1 : Int32} (hA : rA own mm A h F v DM len rl (K + 1)) (hQ0 : ∀ j : Nat, x1.toInt = j → j < 4 → rA own mm A h F (va_up v 0 0) DM len rl K → Qr (F (A 86) j) (mH h F mm (va_up v 0 0))) (hQ1 : byd 4 x1 → rA own mm A h F (va_up v 0 1) DM len rl K → Qr 0 (mH h F mm (va_up v 0 1))) : w_M_trap mm x1 (mH h F mm v) Qr := by
  have hB := hA.B
  obtain ⟨b1, b2, b3, b4⟩ := hB.kx (k := 86) (kd := 102) (n := 4) (by decide) (by decide)
  have L18 : ∀ y0 : Int32, (y0 = 0 ∧ 0 ≤ x1.toInt ∧ x1.toInt < 4) ∨ (y0 = 1 ∧ byd 4 x1) → w_M_trap_L15 Qr mm x1 y0 mm (mH h F mm v) := by
    intro y0 hy
    unfold w_M_trap_L15 w_M_trap_L35
    refine ⟨hB.2.1, fun h2 e2 => ?_⟩
    rw [mH_I] at e2
    subst e2
    rw [mH_i, xh_up, if_pos rfl]
    rcases hy with ⟨e0, e1, e2⟩ | ⟨e0, e1⟩
    · subst e0
      refine ⟨hB.2.1, fun hle => ⟨A 86, b1, b2, ?_, ?_⟩, fun h9 => absurd (by decide) h9⟩
      · rw [z_in]
        show _ ∧ _ < ((xb_n h (A 86) : Nat) : Int)
        omega
      · have := hQ0 x1.toInt.toNat (by omega) (by omega) (hA.dn.u (by decide))
        rw [mH_o b4, z_cl]
        exact this
    · subst e0
      exact ⟨hB.2.1, fun h9 => absurd h9 (by decide), fun _ => hQ1 e1 (hA.dn.u (by decide))⟩
  unfold w_M_trap w_M_trap_L14
  refine ⟨fun h0 => L18 1 (.inr ⟨rfl, .inl (z_lt.mp h0)⟩), fun h0 => ⟨fun h1 => L18 1 (.inr ⟨rfl, .inr (z_le.mp h1)⟩), fun h1 => L18 0 (.inl ⟨rfl, ?_⟩)⟩⟩
  rw [z_lt] at h0
  rw [z_le] at h1
  simp only [Int32.reduceToInt] at h0 h1
  omega
theorem r_fault {x1 : Int32} (hA : rA own mm A h F v DM len rl (K + 1)) (hQ0 : ∀ j : Nat, x1.toInt = j → j < 2 → rA own mm A h F (va_up v 0 0) DM len rl K → Qr (F (A 89) j) (mH h F mm (va_up v 0 0))) (hQ1 : byd 2 x1 → rA own mm A h F (va_up v 0 1) DM len rl K → Qr 0 (mH h F mm (va_up v 0 1))) : w_M_fault mm x1 (mH h F mm v) Qr := by
  have hB := hA.B
  obtain ⟨b1, b2, b3, b4⟩ := hB.kx (k := 89) (kd := 102) (n := 2) (by decide) (by decide)
  have L18 : ∀ y0 : Int32, (y0 = 0 ∧ 0 ≤ x1.toInt ∧ x1.toInt < 2) ∨ (y0 = 1 ∧ byd 2 x1) → w_M_fault_L15 Qr mm x1 y0 mm (mH h F mm v) := by
    intro y0 hy
    unfold w_M_fault_L15 w_M_fault_L35
    refine ⟨hB.2.1, fun h2 e2 => ?_⟩
    rw [mH_I] at e2
    subst e2
    rw [mH_i, xh_up, if_pos rfl]
    rcases hy with ⟨e0, e1, e2⟩ | ⟨e0, e1⟩
    · subst e0
      refine ⟨hB.2.1, fun hle => ⟨A 89, b1, b2, ?_, ?_⟩, fun h9 => absurd (by decide) h9⟩
      · rw [z_in]
        show _ ∧ _ < ((xb_n h (A 89) : Nat) : Int)
        omega
      · have := hQ0 x1.toInt.toNat (by omega) (by omega) (hA.dn.u (by decide))
        rw [mH_o b4, z_cl]
        exact this
    · subst e0
      exact ⟨hB.2.1, fun h9 => absurd h9 (by decide), fun _ => hQ1 e1 (hA.dn.u (by decide))⟩
  unfold w_M_fault w_M_fault_L10
  refine ⟨fun h0 => L18 0 (.inl ⟨rfl, ?_⟩), fun h0 => ⟨fun h1 => L18 1 (.inr ⟨rfl, ?_⟩), fun h1 => L18 0 (.inl ⟨rfl, ?_⟩)⟩⟩
  · rw [h0]
    decide
  · have g0 : x1.toInt ≠ 0 := fun e => h0 (z_eq.mpr e)
    have g1 : x1.toInt ≠ 1 := fun e => h1 (z_eq.mpr e)
    unfold byd
    omega
  · rw [h1]
    decide
theorem r_end {x1 : Int32} {Q : xb_H → Prop} (hA : rA own mm A h F v DM len rl (K + 1)) (hQ0 : ∀ t : Nat, x1.toInt = t → t ≤ vN v 2 → rA own mm A h F (va_up (va_up v 0 0) 2 x1) DM len rl K → Q (mH h F mm (va_up (va_up v 0 0) 2 x1))) (hQ1 : x1.toInt < 0 ∨ (vN v 2 : Int) < x1.toInt → rA own mm A h F (va_up (va_up v 0 1) 2 (v 2)) DM len rl K → Q (mH h F mm (va_up (va_up v 0 1) 2 (v 2)))) : w_M_end mm x1 (mH h F mm v) Q := by
  have hB := hA.B
  obtain ⟨n2, n2'⟩ := hA.n (k := 2) (b := 10240) (by decide)
  have L37 : ∀ (y0 y : Int32) (ts : Nat), y0.toInt = ts → ts ≤ vN v 2 → (rA own mm A h F (va_up (va_up v 0 y) 2 y0) DM len rl K → Q (mH h F mm (va_up (va_up v 0 y) 2 y0))) → w_M_end_L37 Q y0 mm (mH h F mm (va_up v 0 y)) := by
    intro y0 y ts hy ht hQ
    unfold w_M_end_L37
    refine ⟨hB.2.1, fun h2 e2 => ?_⟩
    rw [mH_I] at e2
    subst e2
    exact hQ (hA.tp (ts := ts) (fun k k0 k2 => by rw [xh_up, if_neg k2, xh_up, if_neg k0]) (by rw [xh_up, if_pos rfl]; exact hy) (by omega))
  have L18 : ∀ y0 : Int32, (y0 = 0 ∧ ∃ ts : Nat, x1.toInt = ts ∧ ts ≤ vN v 2) ∨ (y0 = 1 ∧ (x1.toInt < 0 ∨ (vN v 2 : Int) < x1.toInt)) → w_M_end_L18 Q mm x1 y0 mm (mH h F mm v) := by
    intro y0 hy
    unfold w_M_end_L18
    refine ⟨hB.2.1, fun h2 e2 => ?_⟩
    rw [mH_I] at e2
    subst e2
    rw [mH_i, xh_up, if_pos rfl, xh_up, if_neg (by decide)]
    rcases hy with ⟨e0, ts, t1, t2⟩ | ⟨e0, e1⟩
    · subst e0
      exact ⟨hB.2.1, fun _ => L37 _ _ ts t1 t2 (hQ0 ts t1 t2), fun h9 => absurd (by decide) h9⟩
    · subst e0
      exact ⟨hB.2.1, fun h9 => absurd h9 (by decide), fun _ => L37 _ _ _ n2 (Nat.le_refl _) (hQ1 e1)⟩
  unfold w_M_end w_M_end_L13
  rw [mH_i]
  refine ⟨fun h0 => L18 1 (.inr ⟨rfl, .inl (z_lt.mp h0)⟩), fun h0 => ⟨hB.2.1, fun h1 => L18 0 (.inl ⟨rfl, ?_⟩), fun h1 => L18 1 (.inr ⟨rfl, .inr (by rw [z_le, n2] at h1; omega)⟩)⟩⟩
  rw [z_lt] at h0
  rw [z_le, n2] at h1
  simp only [Int32.reduceToInt] at h0
  exact ⟨x1.toInt.toNat, by omega, by omega⟩
theorem m_isModule {x1 : Int32} (hA : rA own mm A h F v DM len rl K) (h0 : byd (vN v 5) x1 → Qr 0 (mH h F mm v)) (h1 : ∀ m : Nat, x1.toInt = m → m < vN v 5 → Qr 1 (mH h F mm v)) : w_M_isModule mm x1 (mH h F mm v) Qr := by
  obtain ⟨n2, n2'⟩ := hA.n (k := 5) (b := 64) (by decide)
  unfold w_M_isModule w_M_isModule_L16 w_M_isModule_L17
  rw [mH_i]
  refine ⟨fun e => ⟨.inl rfl, h0 (.inl (z_lt.mp e))⟩, fun e0 => ⟨hA.B.2.1, fun e => ⟨.inl rfl, h0 (.inr (by rw [z_le, n2] at e; exact e))⟩, fun e1 => ⟨.inr rfl, h1 x1.toInt.toNat ?_ ?_⟩⟩⟩
  · rw [z_lt] at e0
    simp only [Int32.reduceToInt] at e0
    omega
  · rw [z_lt] at e0
    rw [z_le, n2] at e1
    simp only [Int32.reduceToInt] at e0
    omega
theorem m_isInstance {x1 : Int32} (hA : rA own mm A h F v DM len rl K) (h0 : byd (vN v 30) x1 → Qr 0 (mH h F mm v)) (h1 : ∀ i : Nat, x1.toInt = i → i < vN v 30 → Qr 1 (mH h F mm v)) : w_M_isInstance mm x1 (mH h F mm v) Qr := by
  obtain ⟨n2, n2'⟩ := hA.n (k := 30) (b := 24) (by decide)
  unfold w_M_isInstance w_M_isInstance_L16 w_M_isInstance_L17
  rw [mH_i]
  refine ⟨fun e => ⟨.inl rfl, h0 (.inl (z_lt.mp e))⟩, fun e0 => ⟨hA.B.2.1, fun e => ⟨.inl rfl, h0 (.inr (by rw [z_le, n2] at e; exact e))⟩, fun e1 => ⟨.inr rfl, h1 x1.toInt.toNat ?_ ?_⟩⟩⟩
  · rw [z_lt] at e0
    simp only [Int32.reduceToInt] at e0
    omega
  · rw [z_lt] at e0
    rw [z_le, n2] at e1
    simp only [Int32.reduceToInt] at e0
    omega
/-- what is told of a module -/
def mdV (D : zM) (k : Nat) : Nat := if 2 ≤ k ∧ k ≤ 5 then iM D (k - 2) + qt D (3 + (k - 2)) else qt D (if k < 2 then k + 1 else if k = 6 then 7 else if k = 7 then 9 else 11)
theorem r_module {x1 x2 : Int32} (hA : rA own mm A h F v DM len rl (K + 1)) (hQ0 : ∀ (m k : Nat) (r : Int32), x1.toInt = m → m < vN v 5 → x2.toInt = k → k < 9 → r.toInt = mdV (DM m) k → rA own mm A h F (va_up v 0 0) DM len rl K → Qr r (mH h F mm (va_up v 0 0))) (hQ1 : byd (vN v 5) x1 ∨ byd 9 x2 → rA own mm A h F (va_up v 0 1) DM len rl K → Qr 0 (mH h F mm (va_up v 0 1))) : w_M_module mm x1 x2 (mH h F mm v) Qr := by
  have hB := hA.B
  have L24 : ∀ y0 : Int32, (y0 = 0 ∧ ∃ m : Nat, x1.toInt = m ∧ m < vN v 5 ∧ 0 ≤ x2.toInt ∧ x2.toInt < 9) ∨ (y0 = 1 ∧ (byd (vN v 5) x1 ∨ byd 9 x2)) → w_M_module_L24 Qr mm x1 x2 y0 mm (mH h F mm v) := by
    intro y0 hy
    unfold w_M_module_L24
    refine ⟨hB.2.1, fun h2 e2 => ?_⟩
    rw [mH_I] at e2
    subst e2
    have A0 : rA own mm A h F (va_up v 0 y0) DM len rl K := hA.dn.u (by decide)
    rw [mH_i, xh_up, if_pos rfl]
    rcases hy with ⟨ey, m, m1, m2, m3, m4⟩ | ⟨ey, hy1⟩
    rotate_left
    · subst ey
      exact ⟨hB.2.1, fun h9 => absurd h9 (by decide), fun _ => hQ1 hy1 A0⟩
    subst ey
    refine ⟨hB.2.1, fun hle => ?_, fun h9 => absurd (by decide) h9⟩
    have hX := hA.X m2
    obtain ⟨k, hk⟩ : ∃ k : Nat, x2.toInt = k := ⟨x2.toInt.toNat, by omega⟩
    have bq : ∀ s, s < 12 → qt (DM m) s ≤ 12000 := fun s hs => (hX.2.2.2.2.2.1 s hs).1
    have L93 : ∀ (c : Int32) (s : Nat), c.toInt = s → s < 12 → qt (DM m) s = mdV (DM m) k → w_M_module_L93 Qr c x1 mm (mH h F mm (va_up v 0 0)) := by
      intro c s hc hs hs2
      unfold w_M_module_L93
      exact ⟨hB.2.1, m_manyOf hX m1 hc hs (fun r hr _ => hQ0 m k r m1 m2 hk (by omega) (by rw [hr, hs2]) A0)⟩
    have L56 : ¬ (2 ≤ k ∧ k ≤ 5) → w_M_module_L56 Qr mm x1 x2 (mH h F mm (va_up v 0 0)) := by
      intro h25
      unfold w_M_module_L56
      have e6 : x2 = 6 ↔ k = 6 := by
        rw [z_eq, hk]
        simp only [Int32.reduceToInt]
        omega
      have e7 : x2 = 7 ↔ k = 7 := by
        rw [z_eq, hk]
        simp only [Int32.reduceToInt]
        omega
      have e2 : 2 ≤ x2 ↔ 2 ≤ k := by
        rw [z_le, hk]
        simp only [Int32.reduceToInt]
        omega
      unfold mdV at L93
      rw [if_neg h25] at L93
      refine ⟨fun g2 => ⟨fun g6 => ⟨fun g7 => L93 11 11 rfl (by decide) (by rw [if_neg (by have := e2.mp g2; omega), if_neg (fun e => g6 (e6.mpr e)), if_neg (fun e => g7 (e7.mpr e))]), fun g7 => L93 9 9 rfl (by decide) (by rw [if_neg (by have := e2.mp g2; omega), if_neg (fun e => g6 (e6.mpr e)), if_pos (e7.mp g7)])⟩, fun g6 => L93 7 7 rfl (by decide) (by rw [if_neg (by have := e2.mp g2; omega), if_pos (e6.mp g6)])⟩, fun h9 => L93 (x2 + 1) (x2.toInt.toNat + 1) ?_ ?_ (by rw [if_pos (by have := mt e2.mpr h9; omega), hk]; rfl)⟩
      · rw [z_add]
        simp only [Int32.reduceToInt]
        omega
      · rw [z_le] at h9
        simp only [Int32.reduceToInt] at h9
        omega
    refine ⟨fun h8 => L56 (by rw [z_lt, hk] at h8; simp only [Int32.reduceToInt] at h8; omega), fun h8 => ⟨fun h9 => L56 (by rw [z_lt, hk] at h9; simp only [Int32.reduceToInt] at h9; omega), fun h9 => m_total hX m1 (κ := x2.toInt.toNat - 2) ?_ ?_ (fun r hr _ => hQ0 m k _ m1 m2 hk (by omega) ?_ A0)⟩⟩
    rotate_left
    rotate_left
    · rw [z_lt, hk] at h8 h9
      simp only [Int32.reduceToInt] at h8 h9
      have b1 := bq (3 + (x2.toInt.toNat - 2)) (by omega)
      have b2 := hX.2.2.ib (κ := x2.toInt.toNat - 2)
      unfold mdV
      rw [if_pos (by omega), z_l2i hr (by omega), hk]
      rfl
    · rw [z_lt] at h8 h9
      rw [z_sub]
      simp only [Int32.reduceToInt] at h8 h9 ⊢
      omega
    · rw [z_lt] at h8 h9
      simp only [Int32.reduceToInt] at h8 h9
      omega
  have L23 : byd (vN v 5) x1 ∨ byd 9 x2 → w_M_module_L23 Qr mm x1 x2 mm (mH h F mm v) := by
    intro hb
    unfold w_M_module_L23
    exact L24 1 (.inr ⟨rfl, hb⟩)
  unfold w_M_module
  refine ⟨hB.2.1, m_isModule hA (fun hb _ => ⟨fun _ => L23 (.inl hb), fun h9 => absurd rfl h9⟩) (fun m m1 m2 _ => ⟨fun h9 => absurd h9 (by decide), fun _ => ⟨fun h9 => L23 (.inr (.inl (z_lt.mp h9))), fun h8 => ⟨fun h9 => L23 (.inr (.inr (z_le.mp h9))), fun h9 => L24 0 (.inl ⟨rfl, m, m1, m2, ?_⟩)⟩⟩⟩)⟩
  rw [z_lt] at h8
  rw [z_le] at h9
  simp only [Int32.reduceToInt] at h8 h9
  omega
theorem r_room {x1 x2 : Int32} (hA : rA own mm A h F v DM len rl (K + 1)) (hQ0 : ∀ m b f : Nat, x1.toInt = m → m < vN v 5 → x2.toInt = b → b < qt (DM m) 10 → (F (A 8) (12 * m + 10)).toInt = f → rA own mm A h F (va_up v 0 0) DM len rl K → Qr (F (A 12) (f + b)) (mH h F mm (va_up v 0 0))) (hQ1 : (byd (vN v 5) x1 ∨ ∃ m : Nat, x1.toInt = m ∧ m < vN v 5 ∧ byd (qt (DM m) 10) x2) → rA own mm A h F (va_up v 0 1) DM len rl K → Qr 0 (mH h F mm (va_up v 0 1))) : w_M_room mm x1 x2 (mH h F mm v) Qr := by
  have hB := hA.B
  obtain ⟨b1, b2, -, -⟩ := hB.g (k := 12) (kd := 102) (n := 0) (by decide)
  obtain ⟨d1, d2, d3, d4⟩ := hB.kx (k := 8) (kd := 102) (n := 768) (by decide) (by decide)
  obtain ⟨l1, l2, l3⟩ := hA.2.1
  have m12 : A 12 ≠ mm := hB.nm (by decide)
  have L29 : ∀ y0 : Int32, (y0 = 0 ∧ ∃ m b : Nat, x1.toInt = m ∧ m < vN v 5 ∧ x2.toInt = b ∧ b < qt (DM m) 10) ∨ (y0 = 1 ∧ (byd (vN v 5) x1 ∨ ∃ m : Nat, x1.toInt = m ∧ m < vN v 5 ∧ byd (qt (DM m) 10) x2)) → w_M_room_L29 Qr mm x1 x2 y0 mm (mH h F mm v) := by
    intro y0 hy
    unfold w_M_room_L29 w_M_room_L62
    refine ⟨hB.2.1, fun h2 e2 => ?_⟩
    rw [mH_I] at e2
    subst e2
    have A0 : rA own mm A h F (va_up v 0 y0) DM len rl K := hA.dn.u (by decide)
    rw [mH_i, xh_up, if_pos rfl]
    rcases hy with ⟨ey, m, b, m1, m2, m3, m4⟩ | ⟨ey, hy1⟩
    rotate_left
    · subst ey
      exact ⟨hB.2.1, fun h9 => absurd h9 (by decide), fun _ => hQ1 hy1 A0⟩
    subst ey
    refine ⟨hB.2.1, fun hle => ?_, fun h9 => absurd (by decide) h9⟩
    obtain ⟨-, ⟨a1, -, -, -, a5, -⟩, -⟩ := hA.X m2
    obtain ⟨y1, f, y2, y3, y4⟩ := a5 10 (by decide)
    obtain ⟨y5, y6⟩ := y3 (by omega)
    have e12 : (12 * x1 + 10).toInt = (12 * m + 10 : Nat) := z_12 m1 rfl a1 (by decide)
    refine ⟨A 12, b1, A 8, d1, d2, ?_, b2, ?_, ?_⟩
    rotate_left
    rotate_left
    · rw [mH_o m12, mH_o d4, z_cl, z_cl, e12, Int.toNat_natCast, z_ad2 y2 m3 (by omega) (by omega), Int.toNat_natCast]
      exact hQ0 m b f m1 m2 m3 m4 y2 A0
    · rw [z_in, e12]
      show _ ∧ _ < ((xb_n h (A 8) : Nat) : Int)
      omega
    · rw [z_in, mH_o d4, z_cl, e12, Int.toNat_natCast, z_ad2 y2 m3 (by omega) (by omega)]
      show _ ∧ _ < ((xb_n h (A 12) : Nat) : Int)
      omega
  have L28 : (byd (vN v 5) x1 ∨ ∃ m : Nat, x1.toInt = m ∧ m < vN v 5 ∧ byd (qt (DM m) 10) x2) → w_M_room_L28 Qr mm x1 x2 mm (mH h F mm v) := by
    intro hb
    unfold w_M_room_L28
    exact L29 1 (.inr ⟨rfl, hb⟩)
  unfold w_M_room
  refine ⟨hB.2.1, m_isModule hA (fun hb _ => ⟨fun _ => L28 (.inl hb), fun h9 => absurd rfl h9⟩) (fun m m1 m2 _ => ⟨fun h9 => absurd h9 (by decide), fun _ => ⟨fun h9 => L28 (.inr ⟨m, m1, m2, .inl (z_lt.mp h9)⟩), fun h8 => m_manyOf (s := 10) (hA.X m2) m1 rfl (by decide) (fun r hr _ => ⟨fun h9 => L28 (.inr ⟨m, m1, m2, .inr (by rw [z_le, hr] at h9; exact h9)⟩), fun h9 => L29 0 (.inl ⟨rfl, m, x2.toInt.toNat, m1, m2, ?_⟩)⟩)⟩⟩)⟩
  rw [z_lt] at h8
  rw [z_le, hr] at h9
  simp only [Int32.reduceToInt] at h8
  omega
/-- other numbers that only bounds speak of -/
theorem rA.nb (hA : rA own mm A h F v DM len rl K) {k : Nat} {b : Nat} {x : Int32} (hk : k = 66 ∨ k = 88) (hb : (k, b) ∈ wB) (hx : 0 ≤ x.toInt ∧ x.toInt ≤ b) : rA own mm A h F (va_up v k x) DM len rl K := by
  obtain ⟨w1, w2, w3, w4, w5, w6, w7, w8⟩ := hA.W1
  have n : ∀ j, j ≠ 66 → j ≠ 88 → va_up v k x j = v j := fun j j1 j2 => by rw [xh_up, if_neg (by omega)]
  have e : ∀ j, j ≠ 66 → j ≠ 88 → vN (va_up v k x) j = vN v j := fun j j1 j2 => by
    unfold vN
    rw [n j j1 j2]
  refine hA.ch f0.rf rfl (fun _ _ => rfl) (hA.s (n 34 (by decide) (by decide)) (n 13 (by decide) (by decide))) ⟨⟨fun y hy => ?_, ?_, ?_, ?_, ?_, ?_, ?_, ?_⟩, hA.I.2.cg (fun _ _ => rfl) (fun j hj => ?_)⟩
  · rw [xh_up]
    split
    · rename_i h9
      have : ∀ y ∈ wB, ∀ z ∈ wB, y.1 = z.1 → y = z := by decide
      have := this y hy (k, b) hb h9
      rw [this]
      exact hx
    · exact w1 y hy
  · rw [n 17 (by decide) (by decide), n 84 (by decide) (by decide), n 94 (by decide) (by decide)]; exact w2
  · rw [e 4 (by decide) (by decide), e 2 (by decide) (by decide)]; exact w3
  · rw [e 42 (by decide) (by decide)]; exact w4
  · rw [e 13 (by decide) (by decide), e 4 (by decide) (by decide)]; exact w5
  · rw [e 46 (by decide) (by decide), e 30 (by decide) (by decide)]; exact w6
  · rw [e 52 (by decide) (by decide), e 30 (by decide) (by decide)]; exact w7
  · rw [e 34 (by decide) (by decide), e 30 (by decide) (by decide)]; exact w8
  · have : ∀ k, k ∈ vRX → k ≠ 66 ∧ k ≠ 88 := by decide
    exact n j (this j hj).1 (this j hj).2
theorem r_clear (hA : rA own mm A h F v DM len rl (K + 1)) (hQ : rA own mm A h F (va_up (va_up v 0 0) 88 0) DM len rl K → Qr (v 88) (mH h F mm (va_up (va_up v 0 0) 88 0))) : w_M_clear mm (mH h F mm v) Qr := by
  unfold w_M_clear
  refine ⟨hA.B.2.1, fun h2 e2 v3 e3 h4 e4 => ?_⟩
  rw [mH_I] at e2
  subst e2
  rw [mH_I] at e4
  subst e4
  rw [e3, mH_i, xh_up, if_neg (by decide)]
  exact hQ ((hA.dn.u (by decide)).nb (b := 4096) (.inr rfl) (by decide) (by decide))
theorem r_push {x1 : Int64} (hA : rA own mm A h F v DM len rl (K + 1)) (hQ0 : vN v 66 < 1000 → f0 own h F (xb_L h (A 65) (vN v 66) x1) F → rA own mm A (xb_L h (A 65) (vN v 66) x1) F (va_up (va_up v 0 0) 66 (v 66 + 1)) DM len rl K → Qr (v 66 + 1) (mH (xb_L h (A 65) (vN v 66) x1) F mm (va_up (va_up v 0 0) 66 (v 66 + 1)))) (hQ1 : vN v 66 = 1000 → rA own mm A h F (va_up v 0 1) DM len rl K → Qr 0 (mH h F mm (va_up v 0 1))) : w_M_push mm x1 (mH h F mm v) Qr := by
  have hB := hA.B
  obtain ⟨b1, b2, b3, b4⟩ := hB.kx (k := 65) (kd := 103) (n := 1000) (by decide) (by decide)
  obtain ⟨n2, n2'⟩ := hA.n (k := 66) (b := 1000) (by decide)
  have L16 : ∀ y0 : Int32, (y0 = 0 ∧ vN v 66 ≠ 1000) ∨ (y0 = 1 ∧ vN v 66 = 1000) → w_M_push_L16 Qr mm x1 y0 mm (mH h F mm v) := by
    intro y0 hy
    unfold w_M_push_L16
    refine ⟨hB.2.1, fun h2 e2 => ?_⟩
    rw [mH_I] at e2
    subst e2
    have A0 : rA own mm A h F (va_up v 0 y0) DM len rl K := hA.dn.u (by decide)
    rw [mH_i, xh_up, if_pos rfl, xh_up, if_neg (by decide)]
    rcases hy with ⟨ey, hy⟩ | ⟨ey, hy⟩
    rotate_left
    · subst ey
      exact ⟨hB.2.1, fun h9 => absurd h9 (by decide), fun _ => hQ1 hy A0⟩
    subst ey
    refine ⟨hB.2.1, fun hle => ⟨A 65, b1, b2, ?_, fun h8 e8 h9 e9 => ?_⟩, fun h9 => absurd (by decide) h9⟩
    · rw [z_in, n2]
      show _ ∧ _ < ((xb_n h (A 65) : Nat) : Int)
      omega
    · have c66 : Int32.toNatClampNeg (v 66) = vN v 66 := by rw [z_cl, n2]; omega
      rw [c66] at e8
      have e8' : h8 = mH (xb_L h (A 65) (vN v 66) x1) F mm (va_up v 0 0) := e8
      subst e8'
      rw [mH_i, mH_I, xh_up, if_neg (by decide)] at e9
      subst e9
      rw [mH_i, xh_up, if_pos rfl]
      have o65 : 60 ≤ own (A 65) := by rw [hB.o (by decide)]; omega
      refine hQ0 (by omega) (f0.L o65) ((A0.L o65).nb (b := 1000) (.inl rfl) (by decide) ?_)
      rw [z_inc n2 (by omega)]
      omega
  unfold w_M_push
  rw [mH_i]
  refine ⟨hB.2.1, fun h9 => L16 0 (.inl ⟨rfl, fun e => h9 ?_⟩), fun h9 => L16 1 (.inr ⟨rfl, ?_⟩)⟩
  · rw [z_eq, n2, e]
    rfl
  · rw [z_eq, n2] at h9
    simp only [Int32.reduceToInt] at h9
    omega
theorem W5.no {φ : Nat → Nat → Int32} {ν : Nat → Int32} (h : ν 62 = 0) : W5 φ ν DM := fun h9 => absurd h h9
theorem r_stop (hA : rA own mm A h F v DM len rl (K + 1)) (hQ : rA own mm A h F (va_up (va_up (va_up v 0 0) 62 0) 68 0) DM len rl K → Qr (if v 62 = 0 then 0 else v 68) (mH h F mm (va_up (va_up (va_up v 0 0) 62 0) 68 0))) : w_M_stop mm (mH h F mm v) Qr := by
  have hB := hA.B
  have A0 : rA own mm A h F (va_up v 0 0) DM len rl K := hA.dn.u (by decide)
  have L20 : ∀ y0 : Int32, y0 = (if v 62 = 0 then 0 else v 68) → w_M_stop_L20 Qr mm y0 (mH h F mm (va_up v 0 0)) := by
    intro y0 hy0
    rw [← hy0] at hQ
    unfold w_M_stop_L20
    refine ⟨hB.2.1, fun h2 e2 h3 e3 => ?_⟩
    rw [mH_I] at e2
    subst e2
    rw [mH_I] at e3
    subst e3
    generalize va_up v 0 0 = u at A0 hQ
    have n : ∀ j, j ≠ 62 → j ≠ 68 → va_up (va_up u 62 0) 68 0 j = u j := fun j j1 j2 => by rw [xh_up, if_neg j2, xh_up, if_neg j1]
    have m1 : ∀ k, k ∈ vW1 → k ≠ 62 ∧ k ≠ 68 := by decide
    have m2 : ∀ k, k ∈ vRY → k ≠ 62 ∧ k ≠ 68 := by decide
    refine hQ (A0.ch f0.rf rfl (fun _ _ => rfl) (A0.s (n 34 (by decide) (by decide)) (n 13 (by decide) (by decide))) ⟨A0.W1.c1 (fun k hk => n k (m1 k hk).1 (m1 k hk).2), (A0.I.2.Y.cg (fun _ _ => rfl) (fun k hk => n k (m2 k hk).1 (m2 k hk).2)).X (W5.no ?_)⟩)
    rw [xh_up, if_neg (by decide), xh_up, if_pos rfl]
  unfold w_M_stop
  refine ⟨hB.2.1, fun h2 e2 => ?_⟩
  rw [mH_I] at e2
  subst e2
  rw [mH_i, xh_up, if_neg (by decide), xh_up, if_neg (by decide)]
  exact ⟨fun e => L20 _ (by rw [if_pos e]), fun e => L20 _ (by rw [if_neg e])⟩
end MW3
