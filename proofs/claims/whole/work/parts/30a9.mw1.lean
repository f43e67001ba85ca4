-- the reference's world
def vN (v : Nat → Int32) (k : Nat) : Nat := (v k).toInt.toNat
def aV (φ : Nat → Nat → Int32) (k j : Nat) : Nat := (φ k j).toInt.toNat
def mdP (φ : Nat → Nat → Int32) (len m : Nat) (D : zM) : Prop :=
  m < 64 ∧ (φ 6 m).toInt = qb D ∧ (φ 7 m).toInt = (qe D : Int) - qb D ∧ (∀ j, qb D ≤ j → j < qe D → φ 3 j = qc D j) ∧
  (∀ s, s < 12 → (φ 9 (12 * m + s)).toInt = qt D s ∧ ∃ f : Nat, (φ 8 (12 * m + s)).toInt = f ∧ (0 < qt D s → f + qt D s ≤ len ∧ f + qt D s ≤ 16384) ∧ ∀ k, k < qt D s → (φ 11 (f + k)).toInt = qp D s k) ∧
  ∀ κ, κ < 4 → (φ 10 (4 * m + κ)).toInt = iM D κ
/-- a function's module, type, parameters (the last first), result -/
def fMo (φ : Nat → Nat → Int32) (DM : Nat → zM) (f : Nat) : zM := DM (aV φ 31 (aV φ 44 f))
def fTy (φ : Nat → Nat → Int32) (DM : Nat → zM) (f : Nat) : Nat := fty (fMo φ DM f) (iM (fMo φ DM f) 0 + aV φ 45 f)
def fPl (φ : Nat → Nat → Int32) (DM : Nat → zM) (f : Nat) : List Int := if f < 100000 then ptl (qc (fMo φ DM f)) (tPa (fMo φ DM f) (fTy φ DM f)) (tPn (fMo φ DM f) (fTy φ DM f)) else [127 - ((f : Int) - 100000)]
def fRt (φ : Nat → Nat → Int32) (DM : Nat → zM) (f : Nat) : Int := if f < 100000 then tRt (fMo φ DM f) (fTy φ DM f) else 64
def fnO (ν : Nat → Int32) (f : Nat) : Prop := f < vN ν 43 ∨ (100000 ≤ f ∧ f < 100004)
def wB : List (Nat × Nat) := [(2, 10240), (4, 10240), (5, 64), (13, 10240), (30, 24), (34, 245760), (42, 512), (43, 8192), (46, 24), (47, 16384), (52, 24), (53, 16), (58, 4096), (66, 1000), (88, 4096), (93, 1000)]
def W1 (ν : Nat → Int32) (K : Nat) : Prop := (∀ e ∈ wB, 0 ≤ (ν e.1).toInt ∧ (ν e.1).toInt ≤ e.2) ∧ (ν 17 = 0 ∧ ν 84 = 0 ∧ ν 94 = 0) ∧ vN ν 4 + vN ν 2 + 20 * K ≤ 10240 ∧ vN ν 42 + K ≤ 512 ∧ vN ν 13 ≤ vN ν 4 ∧ vN ν 46 ≤ vN ν 30 ∧ vN ν 52 ≤ vN ν 30 ∧ vN ν 34 ≤ 10240 * vN ν 30
/-- modules -/
def W2 (φ : Nat → Nat → Int32) (ν : Nat → Int32) (len : Nat) (DM : Nat → zM) : Prop := ∀ m, m < vN ν 5 → mdP φ len m (DM m) ∧ mdR (DM m) ∧ qe (DM m) ≤ vN ν 4 ∧ (∀ s, s < 12 → 0 < qt (DM m) s → aV φ 8 (12 * m + s) + qt (DM m) s ≤ vN ν 13) ∧ MV (DM m) (fun b => (φ 12 (aV φ 8 (12 * m + 10) + b)).toInt)
/-- what an import means -/
def rOK (φ : Nat → Nat → Int32) (ν : Nat → Int32) (DM : Nat → zM) (D : zM) (k : Nat) (r : Int) : Prop :=
  ((ub (qc D) (kpo D k)).toInt = 0 → ∃ f : Nat, r = f ∧ fnO ν f ∧ fPl φ DM f = ptl (qc D) (tPa D (cV (qc D) (kpo D k + 1))) (tPn D (cV (qc D) (kpo D k + 1))) ∧ fRt φ DM f = tRt D (cV (qc D) (kpo D k + 1))) ∧
  ((ub (qc D) (kpo D k)).toInt = 1 → ∃ t : Nat, r = t ∧ t < vN ν 46) ∧ ((ub (qc D) (kpo D k)).toInt = 2 → ∃ t : Nat, r = t ∧ t < vN ν 52) ∧
  ((ub (qc D) (kpo D k)).toInt = 3 → ∃ g : Nat, r = g ∧ g < vN ν 58 ∧ (φ 59 g).toInt = (ub (qc D) (kpo D k + 1)).toInt)
/-- an instance -/
def iOK (φ : Nat → Nat → Int32) (ν : Nat → Int32) (DM : Nat → zM) (i : Nat) : Prop := ∃ m ip ofn ov ot om : Nat, ((φ 31 i).toInt = m ∧ (φ 32 i).toInt = ip ∧ (φ 35 i).toInt = ofn ∧ (φ 36 i).toInt = ov ∧ (φ 37 i).toInt = ot ∧ (φ 38 i).toInt = om) ∧ (m < vN ν 5 ∧ ip + qt (DM m) 2 ≤ vN ν 34 ∧ ofn + qt (DM m) 3 ≤ vN ν 43 ∧ ov + qt (DM m) 6 ≤ vN ν 58 ∧ (0 < qt (DM m) 4 → ot < vN ν 46) ∧ (0 < qt (DM m) 5 → om < vN ν 52)) ∧ (∀ k, k < qt (DM m) 3 → (φ 44 (ofn + k)).toInt = i ∧ (φ 45 (ofn + k)).toInt = k) ∧ (∀ k, k < qt (DM m) 6 → (φ 59 (ov + k)).toInt = vty (DM m) (iM (DM m) 3 + k)) ∧ ∀ k, k < qt (DM m) 2 → rOK φ ν DM (DM m) k (φ 33 (ip + k)).toInt
def W3 (φ : Nat → Nat → Int32) (ν : Nat → Int32) (DM : Nat → zM) : Prop := ∀ i, i < vN ν 30 → iOK φ ν DM i
def W4 (φ : Nat → Nat → Int32) (ν : Nat → Int32) (DM : Nat → zM) : Prop :=
  (∀ f, f < vN ν 43 → ∃ i b : Nat, (φ 44 f).toInt = i ∧ (φ 45 f).toInt = b ∧ i < vN ν 30 ∧ b < qt (DM (aV φ 31 i)) 3) ∧ (∀ t, t < vN ν 46 → ∃ tf tz : Nat, (φ 48 t).toInt = tf ∧ (φ 49 t).toInt = tz ∧ tf + tz ≤ vN ν 47) ∧ (∀ j, j < 16384 → φ 51 j = 0 ∨ ∃ f : Nat, (φ 51 j).toInt = (f + 1 : Nat) ∧ fnO ν f) ∧
  (∀ m, m < vN ν 52 → ∃ pc : Nat, (φ 54 m).toInt = pc ∧ pc ≤ vN ν 53) ∧ (∀ j, j < 384 → 0 ≤ (φ 56 j).toInt ∧ (φ 56 j).toInt ≤ 15) ∧ (∀ g, g < vN ν 58 → 124 ≤ (φ 59 g).toInt ∧ (φ 59 g).toInt ≤ 127) ∧
  ∀ k, k < vN ν 42 → ∃ nf ns no : Nat, (φ 39 k).toInt = nf ∧ (φ 40 k).toInt = ns ∧ (φ 41 k).toInt = no ∧ nf + ns ≤ vN ν 4 ∧ no < vN ν 30
/-- a call under way: function, base, locals, place, types, what is open -/
abbrev cX : Type := Nat × Nat × Nat × Nat × List Int × List gF
def tyS (w : Nat → Int32) (p : Nat) : List Int → Prop
  | [] => True
  | y :: r => (w (p + r.length)).toInt = y ∧ tyS w p r
def gOK (φ : Nat → Nat → Int32) (cb : Nat → Int32) (V : Nat → Prop) (h0 o0 : Nat) : List gF → Prop
  | [] => True
  | x :: r => (V x.1 ∧ wk_sh ((cb x.1).toInt % 256) = 1 ∧ ((φ 77 (o0 + 1 + r.length)).toInt = 3 ↔ (cb x.1).toInt = 3) ∧ ((cb x.1).toInt = 3 → (φ 78 (o0 + 1 + r.length)).toInt = (x.1 + 2 : Nat)) ∧ (φ 79 (o0 + 1 + r.length)).toInt = (if (cb x.1).toInt = 3 then 64 else (cb (x.1 + 1)).toInt) ∧ (φ 80 (o0 + 1 + r.length)).toInt = (h0 + x.2.length : Nat)) ∧ gOK φ cb V h0 o0 r
/-- a body that was checked, its witnesses named -/
def bWt (D : zM) (t T p0 E : Nat) (lo ν0 ν : Nat → Int32) (G : ctG) (V : Nat → Prop) (rm : Int) : Prop :=
  T ≤ 1000 ∧ E ≤ qe D ∧ (qb D ≤ p0 ∧ p0 < E) ∧ (0 ≤ rm ∧ rm ≤ 12000) ∧ t < qt D 1 ∧ (∀ j, j < T → 124 ≤ (lo j).toInt ∧ (lo j).toInt ≤ 127) ∧ ct_ZG (gn D) (gv D) (qc D) lo t T p0 E ν0 ν rm G ∧ vok (qc D) ν0 ν p0 E G V ∧ ∀ a c gs, G 0 a c gs → ct_D (gv D) (qc D) ν0 t ((qc D a).toInt % 256) a c gs ∧ wOK (qc D) ν0 E V a gs
def clO (φ : Nat → Nat → Int32) (ν : Nat → Int32) (DM : Nat → zM) (x : cX) (k o : Nat) (pre : List Int) (top : Nat) : Prop :=
  x.1 < vN ν 43 ∧ k < 200 ∧ ((φ 69 k).toInt = x.1 ∧ (φ 70 k).toInt = x.2.2.2.1 ∧ (φ 71 k).toInt = x.2.1 ∧ (φ 72 k).toInt = x.2.2.1 ∧ (φ 73 k).toInt = o) ∧ top = x.2.1 + x.2.2.1 + x.2.2.2.2.1.length ∧
  ∃ (T p0 E : Nat) (lo ν0 ν' : Nat → Int32) (G : ctG) (V : Nat → Prop) (rm : Int), bWt (fMo φ DM x.1) (fTy φ DM x.1) T p0 E lo ν0 ν' G V rm ∧ G 0 x.2.2.2.1 (pre ++ x.2.2.2.2.1) x.2.2.2.2.2 ∧ x.2.2.1 = tPn (fMo φ DM x.1) (fTy φ DM x.1) + T ∧ (x.2.1 + x.2.2.1 : Int) + rm ≤ 16384 ∧
  (∀ i, i < x.2.2.1 → (φ 75 (x.2.1 + i)).toInt = ck_lt (qc (fMo φ DM x.1)) lo (tPa (fMo φ DM x.1) (fTy φ DM x.1)) (tPn (fMo φ DM x.1) (fTy φ DM x.1)) i) ∧ tyS (φ 75) (x.2.1 + x.2.2.1) x.2.2.2.2.1 ∧
  ((φ 77 o).toInt = 0 ∧ (φ 79 o).toInt = tRt (fMo φ DM x.1) (fTy φ DM x.1) ∧ (φ 80 o).toInt = (x.2.1 + x.2.2.1 : Nat)) ∧ gOK φ (qc (fMo φ DM x.1)) V (x.2.1 + x.2.2.1) o x.2.2.2.2.2 ∧ x.2.2.2.2.2.length ≤ 200
def RC (φ : Nat → Nat → Int32) (ν : Nat → Int32) (DM : Nat → zM) : List cX → List Int → Nat → Nat → Prop
  | [], _, top, opens => top = 0 ∧ opens = 0
  | x :: r, pre, top, opens => ∃ o : Nat, opens = o + 1 + x.2.2.2.2.2.length ∧ clO φ ν DM x r.length o pre top ∧ RC φ ν DM r (tp (fRt φ DM x.1)) x.2.1 o
def W5 (φ : Nat → Nat → Int32) (ν : Nat → Int32) (DM : Nat → zM) : Prop := ν 62 ≠ 0 → ∃ f : Nat, (ν 64).toInt = f ∧ fnO ν f ∧ (ν 63 = 0 → vN ν 93 = (fPl φ DM f).length) ∧ (ν 63 ≠ 0 → ∃ (cs : List cX) (top opens : Nat), (ν 68).toInt = cs.length ∧ (ν 76).toInt = top ∧ (ν 81).toInt = opens ∧ RC φ ν DM cs [] top opens)
def RX (φ : Nat → Nat → Int32) (ν : Nat → Int32) (len : Nat) (DM : Nat → zM) : Prop := W2 φ ν len DM ∧ W3 φ ν DM ∧ W4 φ ν DM ∧ W5 φ ν DM
def RI (φ : Nat → Nat → Int32) (ν : Nat → Int32) (len : Nat) (DM : Nat → zM) (K : Nat) : Prop := W1 ν K ∧ RX φ ν len DM
def aRI : List Nat := [3, 6, 7, 8, 9, 10, 11, 12, 31, 32, 33, 35, 36, 37, 38, 39, 40, 41, 44, 45, 48, 49, 51, 54, 56, 59, 69, 70, 71, 72, 73, 75, 77, 78, 79, 80]
def vRI : List Nat := [2, 4, 5, 13, 17, 30, 34, 42, 43, 46, 47, 52, 53, 58, 62, 63, 64, 66, 68, 76, 81, 84, 88, 93, 94]
def vRX : List Nat := [4, 5, 13, 30, 34, 42, 43, 46, 47, 52, 53, 58, 62, 63, 64, 68, 76, 81, 93]
def cutA (φ : Nat → Nat → Int32) (k : Nat) : Nat → Int32 := if k ∈ aRI then φ k else fun _ => 0
def cutV (ν : Nat → Int32) (k : Nat) : Int32 := if k ∈ vRX then ν k else 0
section MW1
variable {φ φ' : Nat → Nat → Int32} {ν ν' : Nat → Int32} {DM : Nat → zM} {len K : Nat}
theorem gOK_cut {cb : Nat → Int32} {V : Nat → Prop} {h0 o0 : Nat} : ∀ {gs : List gF}, gOK φ cb V h0 o0 gs ↔ gOK (cutA φ) cb V h0 o0 gs
  | [] => Iff.rfl
  | _ :: _ => and_congr Iff.rfl gOK_cut
theorem clO_cut {x : cX} {k o top : Nat} {pre : List Int} : clO φ ν DM x k o pre top ↔ clO (cutA φ) (cutV ν) DM x k o pre top := by
  have e : ∀ cb V h0 o0 gs, gOK φ cb V h0 o0 gs = gOK (cutA φ) cb V h0 o0 gs := fun _ _ _ _ _ => propext gOK_cut
  unfold clO
  simp only [e]
  exact Iff.rfl
theorem RC_cut : ∀ {cs : List cX} {pre : List Int} {top opens : Nat}, RC φ ν DM cs pre top opens ↔ RC (cutA φ) (cutV ν) DM cs pre top opens
  | [], _, _, _ => Iff.rfl
  | x :: r, pre, top, opens => by
    have e1 : ∀ o, clO φ ν DM x r.length o pre top = clO (cutA φ) (cutV ν) DM x r.length o pre top := fun _ => propext clO_cut
    have e2 : ∀ p t o, RC φ ν DM r p t o = RC (cutA φ) (cutV ν) DM r p t o := fun _ _ _ => propext RC_cut
    unfold RC
    simp only [e1, e2]
    exact Iff.rfl
theorem RX_cut : RX φ ν len DM ↔ RX (cutA φ) (cutV ν) len DM := by
  have e2 : ∀ cs p t o, RC φ ν DM cs p t o = RC (cutA φ) (cutV ν) DM cs p t o := fun _ _ _ _ => propext RC_cut
  have h5 : W5 φ ν DM ↔ W5 (cutA φ) (cutV ν) DM := by
    unfold W5
    simp only [e2]
    exact Iff.rfl
  exact and_congr Iff.rfl (and_congr Iff.rfl (and_congr Iff.rfl h5))
theorem RX.cg (hI : RX φ ν len DM) (h1 : ∀ k, k ∈ aRI → φ' k = φ k) (h2 : ∀ k, k ∈ vRX → ν' k = ν k) : RX φ' ν' len DM := by
  have e1 : cutA φ' = cutA φ := funext fun k => by
    unfold cutA
    split
    · exact h1 k (by assumption)
    · rfl
  have e2 : cutV ν' = cutV ν := funext fun k => by
    unfold cutV
    split
    · exact h2 k (by assumption)
    · rfl
  rw [RX_cut, e1, e2, ← RX_cut]
  exact hI
theorem W1.cg (hI : W1 ν K) (h2 : ∀ k, k ∈ vRI → ν' k = ν k) : W1 ν' K := by
  obtain ⟨a1, a2, a3, a4, a5, a6, a7, a8⟩ := hI
  have e : ∀ k, k ∈ vRI → vN ν' k = vN ν k := fun k hk => by
    unfold vN
    rw [h2 k hk]
  refine ⟨fun x hx => ?_, ?_, ?_, ?_, ?_, ?_, ?_, ?_⟩
  · have : ∀ x ∈ wB, x.1 ∈ vRI := by decide
    rw [h2 x.1 (this x hx)]
    exact a1 x hx
  · rw [h2 17 (by decide), h2 84 (by decide), h2 94 (by decide)]; exact a2
  · rw [e 4 (by decide), e 2 (by decide)]; exact a3
  · rw [e 42 (by decide)]; exact a4
  · rw [e 13 (by decide), e 4 (by decide)]; exact a5
  · rw [e 46 (by decide), e 30 (by decide)]; exact a6
  · rw [e 52 (by decide), e 30 (by decide)]; exact a7
  · rw [e 34 (by decide), e 30 (by decide)]; exact a8
theorem RI.cg (hI : RI φ ν len DM K) (h1 : ∀ k, k ∈ aRI → φ' k = φ k) (h2 : ∀ k, k ∈ vRI → ν' k = ν k) : RI φ' ν' len DM K := by
  have : ∀ k, k ∈ vRX → k ∈ vRI := by decide
  exact ⟨hI.1.cg h2, hI.2.cg h1 (fun k hk => h2 k (this k hk))⟩
theorem W1.n (hI : W1 ν K) {k b : Nat} (hk : (k, b) ∈ wB) : (ν k).toInt = vN ν k ∧ vN ν k ≤ b := by
  obtain ⟨h1, h2⟩ := hI.1 (k, b) hk
  unfold vN
  dsimp only at h1 h2
  omega
theorem W1.dn (hI : W1 ν (K + 1)) : W1 ν K := by
  obtain ⟨a1, a2, a3, a4, a5⟩ := hI
  exact ⟨a1, a2, by omega, by omega, a5⟩
theorem vN_of {k n : Nat} (h : (ν k).toInt = n) : vN ν k = n := by
  unfold vN
  omega
theorem aV_of {k j n : Nat} (h : (φ k j).toInt = n) : aV φ k j = n := by
  unfold aV
  omega
end MW1
