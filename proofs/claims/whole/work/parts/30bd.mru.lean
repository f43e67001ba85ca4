-- the reference: a run, its state and its smallest steps
/-- the latest call of a run, its body's witnesses named -/
def lvS (φ : Nat → Nat → Int32) (D : zM) (t f b nl k o : Nat) (c : List Int) (gs : List gF) (T p0 E : Nat) (lo ν0 ν1 : Nat → Int32) (G : ctG) (V : Nat → Prop) (rm : Int) : Prop :=
  k < 200 ∧ ((φ 69 k).toInt = f ∧ (φ 71 k).toInt = b ∧ (φ 72 k).toInt = nl ∧ (φ 73 k).toInt = o) ∧ (bWt D t T p0 E lo ν0 ν1 G V rm ∧ nl = tPn D t + T ∧ (b + nl : Int) + rm ≤ 16384) ∧ (∀ i, i < nl → (φ 75 (b + i)).toInt = ck_lt (qc D) lo (tPa D t) (tPn D t) i) ∧ tyS (φ 75) (b + nl) c ∧ ((φ 77 o).toInt = 0 ∧ (φ 79 o).toInt = tRt D t ∧ (φ 80 o).toInt = (b + nl : Nat)) ∧ gOK φ (qc D) V (b + nl) o gs ∧ gs.length ≤ 200
def rnA : List Nat := [19, 69, 70, 71, 72, 73, 75, 77, 78, 79, 80]
def rnV : List Nat := [14, 15, 16, 17, 18, 20, 68, 76, 81, 82, 94, 96]
/-- every value is cut to its type -/
def vmk (A : Nat → Nat) (h : xb_H) (F : Nat → Nat → Int32) : Prop := ∀ j, arV (F (A 75) j).toInt (xb_l h (A 74) j) = xb_l h (A 74) j
/-- what the small steps of a run may change -/
def sF (own A : Nat → Nat) (h : xb_H) (F : Nat → Nat → Int32) (v : Nat → Int32) (h' : xb_H) (F' : Nat → Nat → Int32) (v' : Nat → Int32) : Prop :=
  (f0 own h F h' F' ∧ (∀ a, a ≠ A 74 → xb_l h' a = xb_l h a) ∧ (vmk A h F → vmk A h' F')) ∧ (∀ a, (∀ k, k ∈ rnA → a ≠ A k) → F' a = F a) ∧ ∀ k, k ∉ rnV → v' k = v k
section MRU
variable {own : Nat → Nat} {mm m i ip k f t b nl o top : Nat} {A : Nat → Nat} {h h' h2 : xb_H} {F F' F2 : Nat → Nat → Int32} {v v' v2 : Nat → Int32} {D : zM} {DM : Nat → zM} {len rl K : Nat} {Q : xb_H → Prop} {Ql : Int64 → xb_H → Prop} {φ φ' : Nat → Nat → Int32} {ν ν' : Nat → Int32} {c c' pre : List Int} {gs : List gF} {T p0 E : Nat} {lo ν0 ν1 : Nat → Int32} {G : ctG} {V : Nat → Prop} {rm y : Int} {r : List cX}
theorem sF.rf : sF own A h F v h F v := ⟨⟨f0.rf, fun _ _ => rfl, id⟩, fun _ _ => rfl, fun _ _ => rfl⟩
theorem sF.tr (h1 : sF own A h F v h' F' v') (h2' : sF own A h' F' v' h2 F2 v2) : sF own A h F v h2 F2 v2 := ⟨⟨h1.1.1.tr h2'.1.1, fun a ha => (h2'.1.2.1 a ha).trans (h1.1.2.1 a ha), fun h9 => h2'.1.2.2 (h1.1.2.2 h9)⟩, fun a ha => (h2'.2.1 a ha).trans (h1.2.1 a ha), fun k hk => (h2'.2.2 k hk).trans (h1.2.2 k hk)⟩
theorem sF.v1 {x : Int32} (hk : k ∈ rnV) : sF own A h F v h F (va_up v k x) := ⟨⟨f0.rf, fun _ _ => rfl, id⟩, fun _ _ => rfl, fun j hj => by rw [xh_up, if_neg (fun (e : j = k) => hj (e ▸ hk))]⟩
theorem sF.a1 {w : Nat → Int32} (hB : mB own mm A h) (hk : k ∈ rnA) (h75 : k ≠ 75) : sF own A h F v h (va_up F (A k) w) v := ⟨⟨f0.aw (by rw [hB.o ((by decide : ∀ k, k ∈ rnA → ∃ e ∈ aL, e.1 = k) k hk)]; omega), fun _ _ => rfl, fun h9 j => by rw [xh_up, if_neg (Ne.symm (hB.ne ((by decide : ∀ k, k ∈ rnA → ∃ e ∈ aL, e.1 = k) k hk) (by decide) h75))]; exact h9 j⟩, fun a ha => by rw [xh_up, if_neg (ha k hk)], fun _ _ => rfl⟩
theorem arV_i {τ : Int} {x : Int64} : arV τ (arV τ x) = arV τ x := by
  unfold arV
  by_cases h9 : τ = 127 ∨ τ = 125
  · rw [if_pos h9, if_pos h9, Int64.and_assoc, Int64.and_self]
  · rw [if_neg h9, if_neg h9]
theorem vmk_L {j : Nat} {x : Int64} {w : Int32} (hw : arV w.toInt x = x) (h9 : vmk A h F) : vmk A (xb_L h (A 74) j x) (va_up F (A 75) (va_up (F (A 75)) j w)) := by
  intro i
  rw [show xb_l (xb_L h (A 74) j x) = va_up (xb_l h) (A 74) (va_up (xb_l h (A 74)) j x) from rfl, xh_up _ (A 75), if_pos rfl, xh_up _ (A 74), if_pos rfl]
  by_cases e : i = j
  · rw [xh_up _ j, if_pos e, xh_up _ j, if_pos e]
    exact hw
  · rw [xh_up _ j, if_neg e, xh_up _ j, if_neg e]
    exact h9 i
theorem vmk_S {j : Nat} {x : Int64} (hw : arV (F (A 75) j).toInt x = x) (h9 : vmk A h F) : vmk A (xb_L h (A 74) j x) F := by
  intro i
  rw [show xb_l (xb_L h (A 74) j x) = va_up (xb_l h) (A 74) (va_up (xb_l h (A 74)) j x) from rfl, xh_up, if_pos rfl]
  by_cases e : i = j
  · rw [xh_up, if_pos e, e]
    exact hw
  · rw [xh_up, if_neg e]
    exact h9 i
theorem sF.S {j : Nat} {x : Int64} (ha : 60 ≤ own (A 74)) (hw : vmk A h F → arV (F (A 75) j).toInt x = x) : sF own A h F v (xb_L h (A 74) j x) F v := ⟨⟨f0.L ha, fun a h9 => by rw [show xb_l (xb_L h (A 74) j x) = va_up (xb_l h) (A 74) (va_up (xb_l h (A 74)) j x) from rfl, xh_up, if_neg h9], fun h9 => vmk_S (hw h9) h9⟩, fun _ _ => rfl, fun _ _ => rfl⟩
theorem sF.L {j : Nat} {x : Int64} {w : Int32} {τ : Int} (hB : mB own mm A h) (hw : w.toInt = τ) : sF own A h F v (xb_L h (A 74) j (arV τ x)) (va_up F (A 75) (va_up (F (A 75)) j w)) v := ⟨⟨(f0.aw (by rw [hB.o (by decide)]; omega)).tr (f0.L (by rw [hB.o (by decide)]; omega)), fun a h9 => by rw [show xb_l (xb_L h (A 74) j (arV τ x)) = va_up (xb_l h) (A 74) (va_up (xb_l h (A 74)) j (arV τ x)) from rfl, xh_up, if_neg h9], fun h9 => vmk_L (by rw [hw, arV_i]) h9⟩, fun a ha => by rw [xh_up, if_neg (ha 75 (by decide))], fun _ _ => rfl⟩
theorem sF.L0 {j : Nat} {x : Int64} (ha : 60 ≤ own (A 74)) (hw : vmk A h F → arV (F (A 75) j).toInt x = x) : sF own A h F v (xb_L h (A 74) j x) F v := ⟨⟨f0.L ha, fun a h9 => by rw [show xb_l (xb_L h (A 74) j x) = va_up (xb_l h) (A 74) (va_up (xb_l h (A 74)) j x) from rfl, xh_up, if_neg h9], fun h9 => vmk_S (hw h9) h9⟩, fun _ _ => rfl, fun _ _ => rfl⟩
theorem vg.sF (h1 : vg v v') : sF own A h F v h F v' := ⟨⟨f0.rf, fun _ _ => rfl, id⟩, fun _ _ => rfl, fun k hk => by
  have q : ∀ j, j ∈ rnV → k ≠ j := fun j hj e => hk (e ▸ hj)
  exact h1 k (q 14 (by decide)) (q 15 (by decide)) (q 16 (by decide)) (q 17 (by decide)) (q 18 (by decide))⟩
theorem sF.ak (hs : sF own A h F v h' F' v') (hB : mB own mm A h) {k : Nat} (hk : ∃ e ∈ aL, e.1 = k) (hn : k ∉ rnA) : F' (A k) = F (A k) := hs.2.1 _ (hB.nin hk (by decide) hn)
theorem rU.sF (hA : rU own mm A h F v DM len rl K) (hs : sF own A h F v h' F' v') (hz : v' 17 = 0) (h94 : v' 94 = 0) : rU own mm A h' F' v' DM len rl K := by
  obtain ⟨a1, a2, a3, ⟨rw_, f, a4, a5⟩, a6, a7⟩ := hA
  have n1 : A 90 ≠ mm := a1.nm (by decide)
  have n2 : rw_ ≠ mm := fun e => by
    have := a1.1
    rw [e] at a4
    omega
  have hrw : ∀ k, k ∈ rnA → rw_ ≠ A k := fun k hk e => by
    have h9 := a1.o ((by decide : ∀ k, k ∈ rnA → ∃ e ∈ aL, e.1 = k) k hk)
    rw [← e, a4] at h9
    have : ∀ k, k ∈ rnA → k < 200 := by decide
    have := this k hk
    omega
  have vo : ∀ k, k ∈ vW1 → v' k = v k := fun k hk => by
    by_cases h9 : k = 17
    · rw [h9, hz, a6.2.1.1]
    · by_cases h8 : k = 94
      · rw [h8, h94, a6.2.1.2.2]
      · have q : ∀ k, k ∈ vW1 → k ≠ 17 → k ≠ 94 → k ∉ rnV := by decide
        exact hs.2.2 k (q k hk h9 h8)
  refine ⟨a1.f hs.1.1, a2.f hs.1.1, ⟨by rw [hs.1.1.2.1]; exact a3.1, a3.2.1, a3.2.2.1, ?_, ?_⟩, ⟨rw_, f, a4, a5.cg hs.1.1.1 hs.1.1.2.1 hs.1.1.2.2.1 ?_ ?_⟩, a6.c1 vo, a7.cg (fun k hk => ?_) (fun k hk => vo k ((by decide : ∀ k, k ∈ vRY → k ∈ vW1) k hk))⟩
  · unfold vN
    rw [vo 34 (by decide)]
    exact a3.2.2.2.1
  · unfold vN
    rw [vo 13 (by decide)]
    exact a3.2.2.2.2
  · rw [mH_o n1, mH_o n1]
    exact hs.ak a1 (by decide) (by decide)
  · rw [mH_o n2, mH_o n2]
    exact hs.2.1 _ hrw
  · have q : ∀ k, k ∈ aRY → (∃ e ∈ aL, e.1 = k) ∧ k ∉ rnA := by decide
    exact hs.ak a1 (q k hk).1 (q k hk).2
/-- a function's module and type stay -/
theorem fMo.st (h31 : φ' 31 = φ 31) (h44 : φ' 44 = φ 44) (h45 : φ' 45 = φ 45) : (∀ f, fMo φ' DM f = fMo φ DM f) ∧ (∀ f, fTy φ' DM f = fTy φ DM f) ∧ (∀ f, fPl φ' DM f = fPl φ DM f) ∧ ∀ f, fRt φ' DM f = fRt φ DM f := by
  have em : ∀ f, fMo φ' DM f = fMo φ DM f := fun f => by
    unfold fMo aV
    rw [h31, h44]
  have et : ∀ f, fTy φ' DM f = fTy φ DM f := fun f => by
    unfold fTy aV
    rw [em, h45]
  refine ⟨em, et, fun f => ?_, fun f => ?_⟩
  · unfold fPl
    rw [em, et]
  · unfold fRt
    rw [em, et]
theorem tyS.cg {w w' : Nat → Int32} {p : Nat} : ∀ {c : List Int}, (∀ j, j < p + c.length → w' j = w j) → tyS w p c → tyS w' p c
  | [], _, _ => trivial
  | y :: r, hw, h => by
    simp only [List.length_cons] at hw
    exact ⟨by rw [hw _ (by omega)]; exact h.1, h.2.cg (fun j hj => hw j (by omega))⟩
theorem gOK.fr {cb : Nat → Int32} {h0 o0 : Nat} : ∀ {gs : List gF}, (∀ k, k ∈ [77, 78, 79, 80] → ∀ j, j < o0 + 1 + gs.length → φ' k j = φ k j) → gOK φ cb V h0 o0 gs → gOK φ' cb V h0 o0 gs
  | [], _, _ => trivial
  | x :: r, hw, h => by
    simp only [List.length_cons] at hw
    refine ⟨?_, h.2.fr (fun k hk j hj => hw k hk j (by omega))⟩
    rw [hw 77 (by decide) _ (by omega), hw 78 (by decide) _ (by omega), hw 79 (by decide) _ (by omega), hw 80 (by decide) _ (by omega)]
    exact h.1
/-- calls below stay, whatever is written above them -/
theorem RC.fr (h31 : φ' 31 = φ 31) (h44 : φ' 44 = φ 44) (h45 : φ' 45 = φ 45) (h43 : vN ν' 43 = vN ν 43) : ∀ {cs : List cX} {pre : List Int} {top opens : Nat}, (∀ k, k ∈ [69, 70, 71, 72, 73] → ∀ j, j < cs.length → φ' k j = φ k j) → (∀ j, j < top → φ' 75 j = φ 75 j) → (∀ k, k ∈ [77, 78, 79, 80] → ∀ j, j < opens → φ' k j = φ k j) → RC φ ν DM cs pre top opens → RC φ' ν' DM cs pre top opens
  | [], _, _, _, _, _, _, h => h
  | x :: r, pre, top, opens, w1, w2, w3, h => by
    obtain ⟨o, e1, ⟨a1, a2, a3, a4, T, p0, E, lo, ν0, ν1, G, V, rm, b1, b2, b3, b4, b5, b6, b7, b8, b9⟩, e3⟩ := h
    obtain ⟨em, et, -, er⟩ := fMo.st (DM := DM) h31 h44 h45
    simp only [List.length_cons] at w1
    refine ⟨o, e1, ?_, ?_⟩
    · unfold clO
      rw [em, et, h43, w1 69 (by decide) _ (by omega), w1 70 (by decide) _ (by omega), w1 71 (by decide) _ (by omega), w1 72 (by decide) _ (by omega), w1 73 (by decide) _ (by omega), w3 77 (by decide) o (by omega), w3 79 (by decide) o (by omega), w3 80 (by decide) o (by omega)]
      exact ⟨a1, a2, a3, a4, T, p0, E, lo, ν0, ν1, G, V, rm, b1, b2, b3, b4, fun i hi => by rw [w2 _ (by omega)]; exact b5 i hi, b6.cg (fun j hj => w2 j (by omega)), b7, b8.fr (fun k hk j hj => w3 k hk j (by omega)), b9⟩
    · rw [er]
      exact RC.fr h31 h44 h45 h43 (fun k hk j hj => w1 k hk j (by omega)) (fun j hj => w2 j (by omega)) (fun k hk j hj => w3 k hk j (by omega)) e3
/-- a value is added -/
theorem n_addE {x1 : Int64} {x3 : Int32} (hB : mB own mm A h) (h76 : (v 76).toInt = top) (ht : top < 18384) (hx : -128 ≤ x3.toInt ∧ x3.toInt ≤ 127) (hQ : ∀ (w : Int32), w.toInt = x3.toInt → Q (mH (xb_L h (A 74) top (arV x3.toInt x1)) (va_up F (A 75) (va_up (F (A 75)) top w)) mm (va_up v 76 (v 76 + 1)))) : w_M_add mm x1 x3 (mH h F mm v) Q := by
  obtain ⟨a1, a2, a3, a4⟩ := hB.kx (k := 74) (kd := 103) (n := 18384) (by decide) (by decide)
  obtain ⟨b1, b2, b3, b4⟩ := hB.kx (k := 75) (kd := 100) (n := 18384) (by decide) (by decide)
  have cl : (v 76).toNatClampNeg = top := by rw [z_cl, h76]; omega
  have L29 : ∀ y0 : Int64, y0 = arV x3.toInt x1 → w_M_add_L29 Q mm x3 y0 (v 76) (A 74) (mH h F mm v) := by
    intro y0 ey
    unfold w_M_add_L29
    refine ⟨a2, ?_, fun h3 e3 => ?_⟩
    · rw [z_in, h76]
      show _ ∧ _ < ((xb_n h (A 74) : Nat) : Int)
      omega
    · rw [cl] at e3
      have e3' : h3 = mH (xb_L h (A 74) top y0) F mm v := e3
      subst e3'
      rw [mH_i]
      refine ⟨hB.2.1, A 75, b1, b2, ?_, fun h8 e8 h9 e9 => ?_⟩
      · rw [z_in, h76]
        show _ ∧ _ < ((xb_n h (A 75) : Nat) : Int)
        omega
      · rw [mH_A b4, cl] at e8
        subst e8
        rw [mH_i, mH_I] at e9
        subst e9
        rw [ey]
        exact hQ _ (z_i8 hx.1 hx.2)
  unfold w_M_add w_M_add_L20
  rw [mH_i]
  refine ⟨hB.2.1, A 74, a1, fun e => L29 _ ?_, fun e7 => ⟨fun e5 => L29 _ ?_, fun e => L29 _ ?_⟩⟩
  · unfold arV
    rw [if_pos (.inl (by rw [e]; rfl))]
  · unfold arV
    rw [if_neg (fun h9 => ?_)]
    rcases h9 with h9 | h9
    · exact e7 (z_eq.mpr (by rw [h9]; rfl))
    · exact e5 (z_eq.mpr (by rw [h9]; rfl))
  · unfold arV
    rw [if_pos (.inr (by rw [e]; rfl))]
theorem n_add {x1 : Int64} {x3 : Int32} (hB : mB own mm A h) (h76 : (v 76).toInt = top) (ht : top < 18384) (hx : -128 ≤ x3.toInt ∧ x3.toInt ≤ 127) (hQ : ∀ (y : Int64) (w : Int32), w.toInt = x3.toInt → Q (mH (xb_L h (A 74) top y) (va_up F (A 75) (va_up (F (A 75)) top w)) mm (va_up v 76 (v 76 + 1)))) : w_M_add mm x1 x3 (mH h F mm v) Q :=
  n_addE hB h76 ht hx (fun w hw => hQ _ w hw)
/-- a value is taken -/
theorem n_popE {x1 : Int32} {op : Nat} (hB : mB own mm A h) (h76 : (v 76).toInt = (top + 1 : Nat)) (ht : top < 18384) (h81 : (v 81).toInt = (op + 1 : Nat)) (ho : op < 40400) (h80 : (F (A 80) op).toInt ≤ top) (h94 : v 94 = 0) (hx : x1 = 0 ∨ F (A 75) top = x1) (hQ : Ql (xb_l h (A 74) top) (mH h F mm (va_up (va_up v 76 (v 76 - 1)) 94 0))) : w_M_pop mm x1 (mH h F mm v) Ql := by
  obtain ⟨a1, a2, a3, a4⟩ := hB.kx (k := 74) (kd := 103) (n := 18384) (by decide) (by decide)
  obtain ⟨b1, b2, b3, b4⟩ := hB.kx (k := 75) (kd := 100) (n := 18384) (by decide) (by decide)
  obtain ⟨c1, c2, c3, c4⟩ := hB.kx (k := 80) (kd := 102) (n := 40400) (by decide) (by decide)
  have e76 : (v 76 - 1).toInt = top := by
    rw [z_sub, h76]
    simp only [Int32.reduceToInt]
    omega
  have e81 : (v 81 - 1).toInt = op := by
    rw [z_sub, h81]
    simp only [Int32.reduceToInt]
    omega
  have cl76 : (v 76 - 1).toNatClampNeg = top := by rw [z_cl, e76]; omega
  have L78 : w_M_pop_L78 Ql mm mm (mH h F mm (va_up v 76 (v 76 - 1))) := by
    unfold w_M_pop_L78 w_M_pop_L79
    refine ⟨hB.2.1, .inl rfl, fun h3 e3 => ?_⟩
    rw [mH_I] at e3
    subst e3
    rw [mH_i, xh_up, if_neg (by decide), xh_up, if_pos rfl]
    refine ⟨hB.2.1, A 74, a1, a2, ?_, ?_⟩
    · rw [z_in, e76]
      show _ ∧ _ < ((xb_n h (A 74) : Nat) : Int)
      omega
    · rw [cl76]
      exact hQ
  have L25 : w_M_pop_L25 Ql mm x1 (mH h F mm v) := by
    unfold w_M_pop_L25
    rw [mH_i]
    refine ⟨hB.2.1, fun _ h3 e3 => ?_, fun h9 => ?_⟩
    · rw [mH_I] at e3
      subst e3
      rw [mH_i, xh_up, if_neg (by decide), xh_up, if_pos rfl]
      refine ⟨fun h9 => absurd h94 h9, fun _ => ⟨fun _ => L78, fun hn0 => ⟨A 75, b1, b2, ?_, fun _ => L78, fun hne => ?_⟩⟩⟩
      · rw [z_in, e76]
        show _ ∧ _ < ((xb_n h (A 75) : Nat) : Int)
        omega
      · rw [mH_o b4, cl76] at hne
        exact absurd (hx.elim (fun e => absurd e hn0) id) hne
    · rw [h9] at h76
      have : (0 : Int32).toInt = 0 := rfl
      omega
  unfold w_M_pop
  rw [mH_i]
  refine ⟨hB.2.1, fun _ => L25, fun _ => ⟨A 80, c1, c2, ?_, fun hle => ?_, fun _ => L25⟩⟩
  · rw [z_in, e81]
    show _ ∧ _ < ((xb_n h (A 80) : Nat) : Int)
    omega
  · rw [mH_o c4, z_cl, e81, Int.toNat_natCast, z_le, h76] at hle
    omega
theorem n_pop {x1 : Int32} {op : Nat} (hB : mB own mm A h) (h76 : (v 76).toInt = (top + 1 : Nat)) (ht : top < 18384) (h81 : (v 81).toInt = (op + 1 : Nat)) (ho : op < 40400) (h80 : (F (A 80) op).toInt ≤ top) (h94 : v 94 = 0) (hx : x1 = 0 ∨ F (A 75) top = x1) (hQ : ∀ y : Int64, Ql y (mH h F mm (va_up (va_up v 76 (v 76 - 1)) 94 0))) : w_M_pop mm x1 (mH h F mm v) Ql :=
  n_popE hB h76 ht h81 ho h80 h94 hx (hQ _)
/-- something is opened -/
theorem n_open {x1 x2 : Int32} {op : Nat} (hB : mB own mm A h) (h81 : (v 81).toInt = op) (ho : op < 40400) (hQ : ∀ F' : Nat → Nat → Int32, (∀ a, (∀ k, k ∈ [77, 78, 79, 80] → a ≠ A k) → F' a = F a) → F' (A 77) = va_up (F (A 77)) op x1 → F' (A 78) = va_up (F (A 78)) op (v 15) → F' (A 79) = va_up (F (A 79)) op x2 → F' (A 80) = va_up (F (A 80)) op (v 76) → Q (mH h F' mm (va_up v 81 (v 81 + 1)))) : w_M_open mm x1 x2 (mH h F mm v) Q := by
  have g77 := hB.kx (k := 77) (kd := 102) (n := 40400) (by decide) (by decide)
  have g78 := hB.kx (k := 78) (kd := 102) (n := 40400) (by decide) (by decide)
  have g79 := hB.kx (k := 79) (kd := 102) (n := 40400) (by decide) (by decide)
  have g80 := hB.kx (k := 80) (kd := 102) (n := 40400) (by decide) (by decide)
  have cl : (v 81).toNatClampNeg = op := by rw [z_cl, h81]; omega
  have inn : ∀ a, xb_n h a = 40400 → vp_in (v 81) (xb_n h a) := fun a ha => by rw [z_in, h81, ha]; omega
  unfold w_M_open
  rw [mH_i]
  refine ⟨hB.2.1, A 77, g77.1, g77.2.1, inn _ g77.2.2.1, fun h5 e5 => ?_⟩
  rw [mH_A g77.2.2.2, cl] at e5
  subst e5
  rw [mH_i]
  refine ⟨A 78, g78.1, g78.2.1, inn _ g78.2.2.1, fun h9 e9 => ?_⟩
  rw [mH_A g78.2.2.2, cl] at e9
  subst e9
  rw [mH_i]
  refine ⟨A 79, g79.1, g79.2.1, inn _ g79.2.2.1, fun h13 e13 => ?_⟩
  rw [mH_A g79.2.2.2, cl] at e13
  subst e13
  rw [mH_i]
  refine ⟨A 80, g80.1, g80.2.1, inn _ g80.2.2.1, fun h17 e17 h18 e18 => ?_⟩
  rw [mH_A g80.2.2.2, cl] at e17
  subst e17
  rw [mH_i, mH_I] at e18
  subst e18
  have n : ∀ j k, (∃ e ∈ aL, e.1 = j) → (∃ e ∈ aL, e.1 = k) → j ≠ k → A j ≠ A k := fun j k hj hk h9 => hB.ne hj hk h9
  have n1 := n 77 78 (by decide) (by decide) (by decide)
  have n2 := n 77 79 (by decide) (by decide) (by decide)
  have n3 := n 77 80 (by decide) (by decide) (by decide)
  have n4 := n 78 79 (by decide) (by decide) (by decide)
  have n5 := n 78 80 (by decide) (by decide) (by decide)
  have n6 := n 79 80 (by decide) (by decide) (by decide)
  refine hQ _ (fun a ha => ?_) ?_ ?_ ?_ ?_
  · rw [xh_up, if_neg (ha 80 (by decide)), xh_up, if_neg (ha 79 (by decide)), xh_up, if_neg (ha 78 (by decide)), xh_up, if_neg (ha 77 (by decide))]
  · rw [xh_up, if_neg n3, xh_up, if_neg n2, xh_up, if_neg n1, xh_up, if_pos rfl]
  · rw [xh_up, if_neg n5, xh_up, if_neg n4, xh_up, if_pos rfl, xh_up, if_neg (Ne.symm n1)]
  · rw [xh_up, if_neg n6, xh_up, if_pos rfl, xh_up _ (A 78) _ (A 79), if_neg (Ne.symm n4), xh_up _ (A 77) _ (A 79), if_neg (Ne.symm n2)]
  · rw [xh_up, if_pos rfl, xh_up _ (A 79) _ (A 80), if_neg (Ne.symm n6), xh_up _ (A 78) _ (A 80), if_neg (Ne.symm n5), xh_up _ (A 77) _ (A 80), if_neg (Ne.symm n3)]
theorem RC.ob : ∀ {cs : List cX} {pre : List Int} {top opens : Nat}, RC φ ν DM cs pre top opens → opens ≤ 201 * cs.length
  | [], _, _, _, h => by
    rw [h.2]
    exact Nat.zero_le _
  | x :: r, _, _, _, h => by
    obtain ⟨o, e1, ⟨-, -, -, -, T, p0, E, lo, ν0, ν1, G, V, rm, -, -, -, -, -, -, -, -, b9⟩, e3⟩ := h
    have := e3.ob
    simp only [List.length_cons]
    omega
/-- within an instruction of the latest call: its types c, what is open gs -/
def uX (own : Nat → Nat) (mm : Nat) (A : Nat → Nat) (h : xb_H) (F : Nat → Nat → Int32) (v : Nat → Int32) (DM : Nat → zM) (len rl K : Nat) (D : zM) (t f b nl k o : Nat) (c : List Int) (gs : List gF) (T p0 E : Nat) (lo ν0 ν1 : Nat → Int32) (G : ctG) (V : Nat → Prop) (rm : Int) (r : List cX) : Prop :=
  rU own mm A h F v DM len rl K ∧ lvS (fun k => F (A k)) D t f b nl k o c gs T p0 E lo ν0 ν1 G V rm ∧ (fMo (fun k => F (A k)) DM f = D ∧ fTy (fun k => F (A k)) DM f = t ∧ f < vN v 43) ∧ RC (fun k => F (A k)) v DM r (tp (fRt (fun k => F (A k)) DM f)) b o ∧ r.length = k ∧ ((v 68).toInt = (k + 1 : Nat) ∧ (v 76).toInt = (b + nl + c.length : Nat) ∧ (v 81).toInt = (o + 1 + gs.length : Nat)) ∧ b + nl + c.length ≤ 16384
theorem uX.vv (hX : uX own mm A h F v DM len rl K D t f b nl k o c gs T p0 E lo ν0 ν1 G V rm r) (hv : ∀ j, j ∉ [14, 15, 16, 17, 18, 20, 82, 96] → v' j = v j) (hz : v' 17 = 0) : uX own mm A h F v' DM len rl K D t f b nl k o c gs T p0 E lo ν0 ν1 G V rm r := by
  obtain ⟨a1, a2, ⟨a3, a4, a5⟩, a6, a7, ⟨a8, a9, a10⟩, a11⟩ := hX
  have e43 : vN v' 43 = vN v 43 := by
    unfold vN
    rw [hv 43 (by decide)]
  refine ⟨a1.sF ⟨⟨f0.rf, fun _ _ => rfl, id⟩, fun _ _ => rfl, fun j hj => hv j (fun h9 => hj ((by decide : ∀ j, j ∈ [14, 15, 16, 17, 18, 20, 82, 96] → j ∈ rnV) j h9))⟩ hz (by rw [hv 94 (by decide)]; exact a1.W1.2.1.2.2), a2, ⟨a3, a4, by rw [e43]; exact a5⟩, a6.fr rfl rfl rfl e43 (fun _ _ _ _ => rfl) (fun _ _ => rfl) (fun _ _ _ _ => rfl), a7, ⟨by rw [hv 68 (by decide)]; exact a8, by rw [hv 76 (by decide)]; exact a9, by rw [hv 81 (by decide)]; exact a10⟩, a11⟩
theorem uX.vg (hX : uX own mm A h F v DM len rl K D t f b nl k o c gs T p0 E lo ν0 ν1 G V rm r) (h1 : vg v v') (hz : v' 17 = 0) : uX own mm A h F v' DM len rl K D t f b nl k o c gs T p0 E lo ν0 ν1 G V rm r := hX.vv (fun j hj => by
  have q : ∀ i, i ∈ [14, 15, 16, 17, 18, 20, 82, 96] → j ≠ i := fun i hi e => hj (e ▸ hi)
  exact h1 j (q 14 (by decide)) (q 15 (by decide)) (q 16 (by decide)) (q 17 (by decide)) (q 18 (by decide))) hz
/-- how high the types may be taken down -/
theorem uX.ht (hX : uX own mm A h F v DM len rl K D t f b nl k o c gs T p0 E lo ν0 ν1 G V rm r) : ∃ op : Nat, (v 81).toInt = (op + 1 : Nat) ∧ op < 40400 ∧ (F (A 80) op).toInt = (b + nl + gbl gs : Nat) ∧ op = o + gs.length := by
  obtain ⟨a1, ⟨l1, l2, l3, l4, l5, l6, l7, l8⟩, -, a6, a7, ⟨a8, a9, a10⟩, a11⟩ := hX
  have := a6.ob
  refine ⟨o + gs.length, by rw [a10]; congr 1; omega, by omega, ?_, rfl⟩
  cases gs with
  | nil => exact l6.2.2
  | cons x gs' =>
    have h8 := l7.1.2.2.2.2.2
    simp only [List.length_cons]
    rw [show o + (gs'.length + 1) = o + 1 + gs'.length by omega]
    exact h8
theorem uX.popE {x1 : Int32} (hX : uX own mm A h F v DM len rl K D t f b nl k o (y :: c) gs T p0 E lo ν0 ν1 G V rm r) (hx : x1 = 0 ∨ x1.toInt = y) (hg : gbl gs ≤ c.length) (hQ : ∀ (v' : Nat → Int32), sF own A h F v h F v' → (∀ j, j ≠ 76 → v' j = v j) → uX own mm A h F v' DM len rl K D t f b nl k o c gs T p0 E lo ν0 ν1 G V rm r → Ql (xb_l h (A 74) (b + nl + c.length)) (mH h F mm v')) : w_M_pop mm x1 (mH h F mm v) Ql := by
  obtain ⟨op, o1, o2, o3, o4⟩ := hX.ht
  obtain ⟨a1, ⟨l1, l2, l3, l4, l5, l6, l7, l8⟩, ⟨a3, a4, a5⟩, a6, a7, ⟨a8, a9, a10⟩, a11⟩ := id hX
  simp only [List.length_cons] at a9 a11
  have z94 := a1.W1.2.1.2.2
  refine n_popE (top := b + nl + c.length) a1.B (by rw [a9]; congr 1) (by omega) o1 o2 (by rw [o3]; omega) z94 (hx.imp id (fun e => ?_)) ?_
  · have := l5.1
    rw [z_eq, e]
    exact this
  · have e76 : (v 76 - 1).toInt = (b + nl + c.length : Nat) := by
      rw [z_sub, a9]
      simp only [Int32.reduceToInt]
      omega
    have vo : ∀ j, j ≠ 76 → va_up (va_up v 76 (v 76 - 1)) 94 0 j = v j := fun j hj => by
      by_cases h9 : j = 94
      · rw [h9, xh_up, if_pos rfl, z94]
      · rw [xh_up, if_neg h9, xh_up, if_neg hj]
    have s1 : sF own A h F v h F (va_up (va_up v 76 (v 76 - 1)) 94 0) := ⟨⟨f0.rf, fun _ _ => rfl, id⟩, fun _ _ => rfl, fun j hj => vo j (fun e => hj (e ▸ by decide))⟩
    have e43 : vN (va_up (va_up v 76 (v 76 - 1)) 94 0) 43 = vN v 43 := by
      unfold vN
      rw [vo 43 (by decide)]
    refine hQ _ s1 vo ⟨a1.sF s1 (by rw [vo 17 (by decide)]; exact a1.z) (by rw [xh_up, if_pos rfl]), ⟨l1, l2, l3, l4, l5.2, l6, l7, l8⟩, ⟨a3, a4, by rw [e43]; exact a5⟩, a6.fr rfl rfl rfl e43 (fun _ _ _ _ => rfl) (fun _ _ => rfl) (fun _ _ _ _ => rfl), a7, ⟨by rw [vo 68 (by decide)]; exact a8, ?_, by rw [vo 81 (by decide)]; exact a10⟩, by omega⟩
    rw [xh_up, if_neg (by decide), xh_up, if_pos rfl]
    exact e76
theorem uX.pop {x1 : Int32} (hX : uX own mm A h F v DM len rl K D t f b nl k o (y :: c) gs T p0 E lo ν0 ν1 G V rm r) (hx : x1 = 0 ∨ x1.toInt = y) (hg : gbl gs ≤ c.length) (hQ : ∀ (z : Int64) (v' : Nat → Int32), sF own A h F v h F v' → (∀ j, j ≠ 76 → v' j = v j) → uX own mm A h F v' DM len rl K D t f b nl k o c gs T p0 E lo ν0 ν1 G V rm r → Ql z (mH h F mm v')) : w_M_pop mm x1 (mH h F mm v) Ql :=
  hX.popE hx hg (fun v' => hQ _ v')
/-- what an instruction of the latest call may write: types above the call's base -/
theorem uX.tyw {w : Nat → Int32} (hX : uX own mm A h F v DM len rl K D t f b nl k o c gs T p0 E lo ν0 ν1 G V rm r) (hw : ∀ j, j < b + nl → w j = F (A 75) j) (hs : sF own A h F v h' (va_up F (A 75) w) v') (hz : v' 17 = 0) (h94 : v' 94 = 0) (hc : tyS w (b + nl) c') (h68 : v' 68 = v 68) (h81 : v' 81 = v 81) (h76 : (v' 76).toInt = (b + nl + c'.length : Nat)) (hl : b + nl + c'.length ≤ 16384) : uX own mm A h' (va_up F (A 75) w) v' DM len rl K D t f b nl k o c' gs T p0 E lo ν0 ν1 G V rm r := by
  obtain ⟨a1, ⟨l1, l2, l3, l4, l5, l6, l7, l8⟩, ⟨a3, a4, a5⟩, a6, a7, ⟨a8, a9, a10⟩, a11⟩ := hX
  have hB := a1.B
  have ne : ∀ k, (∃ e ∈ aL, e.1 = k) → k ≠ 75 → va_up F (A 75) w (A k) = F (A k) := fun k hk h9 => by rw [xh_up, if_neg (hB.ne hk (by decide) h9)]
  have s75 : va_up F (A 75) w (A 75) = w := by rw [xh_up, if_pos rfl]
  have e43 : vN v' 43 = vN v 43 := by
    unfold vN
    rw [hs.2.2 43 (by decide)]
  obtain ⟨em, et, -, er⟩ := fMo.st (DM := DM) (φ := fun k => F (A k)) (φ' := fun k => va_up F (A 75) w (A k)) (ne 31 (by decide) (by decide)) (ne 44 (by decide) (by decide)) (ne 45 (by decide) (by decide))
  refine ⟨a1.sF hs hz h94, ⟨l1, ?_, l3, fun i hi => ?_, ?_, ?_, ?_, l8⟩, ⟨by rw [em]; exact a3, by rw [et]; exact a4, by rw [e43]; exact a5⟩, ?_, a7, ⟨by rw [h68]; exact a8, h76, by rw [h81]; exact a10⟩, hl⟩
  · show (va_up F (A 75) w (A 69) k).toInt = f ∧ (va_up F (A 75) w (A 71) k).toInt = b ∧ (va_up F (A 75) w (A 72) k).toInt = nl ∧ (va_up F (A 75) w (A 73) k).toInt = o
    rw [ne 69 (by decide) (by decide), ne 71 (by decide) (by decide), ne 72 (by decide) (by decide), ne 73 (by decide) (by decide)]
    exact l2
  · show (va_up F (A 75) w (A 75) (b + i)).toInt = _
    rw [s75, hw _ (by omega)]
    exact l4 i hi
  · show tyS (va_up F (A 75) w (A 75)) (b + nl) c'
    rw [s75]
    exact hc
  · show (va_up F (A 75) w (A 77) o).toInt = 0 ∧ (va_up F (A 75) w (A 79) o).toInt = tRt D t ∧ (va_up F (A 75) w (A 80) o).toInt = (b + nl : Nat)
    rw [ne 77 (by decide) (by decide), ne 79 (by decide) (by decide), ne 80 (by decide) (by decide)]
    exact l6
  · refine l7.fr (fun k hk j _ => ?_)
    have q : ∀ k, k ∈ [77, 78, 79, 80] → (∃ e ∈ aL, e.1 = k) ∧ k ≠ 75 := by decide
    show va_up F (A 75) w (A k) j = F (A k) j
    rw [ne k (q k hk).1 (q k hk).2]
  · rw [er]
    refine a6.fr (φ' := fun k => va_up F (A 75) w (A k)) (ne 31 (by decide) (by decide)) (ne 44 (by decide) (by decide)) (ne 45 (by decide) (by decide)) e43 (fun k hk j _ => ?_) (fun j hj => ?_) (fun k hk j _ => ?_)
    · have q : ∀ k, k ∈ [69, 70, 71, 72, 73] → (∃ e ∈ aL, e.1 = k) ∧ k ≠ 75 := by decide
      show va_up F (A 75) w (A k) j = F (A k) j
      rw [ne k (q k hk).1 (q k hk).2]
    · show va_up F (A 75) w (A 75) j = F (A 75) j
      rw [s75]
      exact hw j (by omega)
    · have q : ∀ k, k ∈ [77, 78, 79, 80] → (∃ e ∈ aL, e.1 = k) ∧ k ≠ 75 := by decide
      show va_up F (A 75) w (A k) j = F (A k) j
      rw [ne k (q k hk).1 (q k hk).2]
theorem uX.pushE {x1 : Int64} {x3 : Int32} (hX : uX own mm A h F v DM len rl K D t f b nl k o c gs T p0 E lo ν0 ν1 G V rm r) (hx : -128 ≤ x3.toInt ∧ x3.toInt ≤ 127) (hl : b + nl + c.length < 16384) (hQ : ∀ (F' : Nat → Nat → Int32) (v' : Nat → Int32), sF own A h F v (xb_L h (A 74) (b + nl + c.length) (arV x3.toInt x1)) F' v' → (∀ j, j ≠ 76 → v' j = v j) → (∀ a, a ≠ A 75 → F' a = F a) → uX own mm A (xb_L h (A 74) (b + nl + c.length) (arV x3.toInt x1)) F' v' DM len rl K D t f b nl k o (x3.toInt :: c) gs T p0 E lo ν0 ν1 G V rm r → Q (mH (xb_L h (A 74) (b + nl + c.length) (arV x3.toInt x1)) F' mm v')) : w_M_add mm x1 x3 (mH h F mm v) Q := by
  obtain ⟨a1, ⟨l1, l2, l3, l4, l5, l6, l7, l8⟩, ⟨a3, a4, a5⟩, a6, a7, ⟨a8, a9, a10⟩, a11⟩ := id hX
  have hB := a1.B
  refine n_addE hB a9 (by omega) hx (fun w ew => ?_)
  have vo : ∀ j, j ≠ 76 → va_up v 76 (v 76 + 1) j = v j := fun j hj => by rw [xh_up, if_neg hj]
  have s1 : sF own A h F v (xb_L h (A 74) (b + nl + c.length) (arV x3.toInt x1)) (va_up F (A 75) (va_up (F (A 75)) (b + nl + c.length) w)) (va_up v 76 (v 76 + 1)) := (sF.L hB ew).tr (sF.v1 (by decide))
  refine hQ _ _ s1 vo (fun a ha => by rw [xh_up, if_neg ha]) (hX.tyw (fun j hj => by rw [xh_up, if_neg (by omega)]) s1 (by rw [vo 17 (by decide)]; exact a1.z) (by rw [vo 94 (by decide)]; exact a1.W1.2.1.2.2) ⟨?_, l5.cg (fun j hj => by rw [xh_up, if_neg (by omega)])⟩ (vo 68 (by decide)) (vo 81 (by decide)) ?_ (by simp only [List.length_cons]; omega))
  · rw [xh_up, if_pos rfl]
    exact ew
  · rw [xh_up, if_pos rfl]
    have := z_inc a9 (by omega)
    simp only [List.length_cons]
    exact this
theorem uX.push {x1 : Int64} {x3 : Int32} (hX : uX own mm A h F v DM len rl K D t f b nl k o c gs T p0 E lo ν0 ν1 G V rm r) (hx : -128 ≤ x3.toInt ∧ x3.toInt ≤ 127) (hl : b + nl + c.length < 16384) (hQ : ∀ (h' : xb_H) (F' : Nat → Nat → Int32) (v' : Nat → Int32), sF own A h F v h' F' v' → (∀ j, j ≠ 76 → v' j = v j) → (∀ a, a ≠ A 75 → F' a = F a) → uX own mm A h' F' v' DM len rl K D t f b nl k o (x3.toInt :: c) gs T p0 E lo ν0 ν1 G V rm r → Q (mH h' F' mm v')) : w_M_add mm x1 x3 (mH h F mm v) Q :=
  hX.pushE hx hl (fun F' v' => hQ _ F' v')
end MRU
