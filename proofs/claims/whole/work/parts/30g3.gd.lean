-- equality: a run of the class and one of the reference, what they hold alike
/-- a function's number in the reference -/
def fmp (f : Nat) : Nat := if 8192 ≤ f then f - 8192 + 100000 else f
/-- where a function's body begins, in the class -/
def bE0 (d : mD) (k : Nat) : Nat := (dvs d 9 (5 * (k - ni d 0))).toInt.toNat
/-- an open call of both -/
def fQ (W : wD) (φ : Nat → Nat → Int32) (DM : Nat → zM) (x : fG) (y : cX) : Prop :=
  (y.1 < wno W ∧ y.1 < 8192 ∧ wfo W y.1 = gI x ∧ gI x < wic W ∧ wff W (gI x) ≤ y.1 ∧ gK x = y.1 - wff W (gI x) + ni (wd W (gI x)) 0) ∧ y.2.1 = gB x ∧ y.2.1 + y.2.2.1 = gO x ∧ y.2.2.2.1 = qb (fMo φ DM y.1) + gA x ∧ y.2.2.2.2.1.length = (gC x).length ∧ lw (qc (fMo φ DM y.1)) (qb (fMo φ DM y.1) + bE0 (wd W (gI x)) (gK x)) (qb (fMo φ DM y.1) + gA x) ∧ gsQ (qc (fMo φ DM y.1)) (qb (fMo φ DM y.1)) (bE0 (wd W (gI x)) (gK x)) (gS x) y.2.2.2.2.2
def frQ (W : wD) (φ : Nat → Nat → Int32) (DM : Nat → zM) (gx : Nat → fG) : List cX → Nat → Prop
  | [], D => D = 0
  | y :: r, D => ∃ D', D = D' + 1 ∧ fQ W φ DM (gx D') y ∧ frQ W φ DM gx r D'
/-- what comes of a step, in both -/
def oQ (W : wD) (φ : Nat → Nat → Int32) (DM : Nat → zM) (o : Oc) (z : rZ) : Prop := match o, z with
  | .inl (D, gx, v), .inl (cs, _, ω) => 0 < D ∧ frQ W φ DM gx cs D ∧ ∀ j, j < gO (gx (D - 1)) + (gC (gx (D - 1))).length → v j = ω j
  | .inr (.inl y), .inl (cs, n, ω) => cs = [] ∧ y = if 0 < n then ω 0 else 0
  | .inr (.inr t), .inr s => 0 < s.1.toInt ∧ s.1.toInt = t.1 ∧ s.2.1.toInt = t.2.1 ∧ s.2.2.1.toInt = t.2.2.1 ∧ s.2.2.2.toInt = t.2.2.2
  | _, _ => False
/-- variables, bytes, pages, what is put out: alike; gm tells which memory an instance has -/
def wQ (ad : Nat → Nat) (h : xb_H) (W : wD) (np : Nat) (gm : Nat → Nat) (w : rWd) : Prop :=
  (∀ j, j < wnv W → w.1 j = xb_l h (ad 22) j) ∧ ((∀ a, a < 65536 * np → byR w.2.1 a = byA (xb_l h (ad 26)) a) ∧ ∀ a, 65536 * np ≤ a → a < 1048576 → byR w.2.1 a = 0) ∧
  (∀ i, i < wic W → 0 < dn (wd W i) 4 / 3 → (w.2.2.1 (gm i)).toInt = mmP h W i ∧ ∀ j, j < mmP h W i → w.2.2.2.1 (16 * gm i + j) = xb_i h (mmS h W i) j) ∧ w.2.2.2.2.1.toInt = np ∧
  w.2.2.2.2.2.1 = xb_i h (ad 27) 1 ∧ ∀ j : Nat, (j : Int) < (xb_i h (ad 27) 1).toInt → w.2.2.2.2.2.2 j = xb_l h (ad 28) j
def gmV (A : Nat → Nat) (F : Nat → Nat → Int32) (DM : Nat → zM) (i : Nat) : Nat := (oV A F DM i 2).toInt.toNat
/-- what no run changes, alike -/
def stQ (h : xb_H) (ad : Nat → Nat) (W : wD) (A : Nat → Nat) (F : Nat → Nat → Int32) (DM : Nat → zM) (most : Nat → Int64) : Prop :=
  (∀ i, i < wic W → mdQ (wd W i) (DM (F (A 31) i).toInt.toNat) ∧ mdR (DM (F (A 31) i).toInt.toNat) ∧ (F (A 6) (F (A 31) i).toInt.toNat).toInt = qb (DM (F (A 31) i).toInt.toNat) ∧ (F (A 10) (4 * (F (A 31) i).toInt.toNat)).toInt = iM (DM (F (A 31) i).toInt.toNat) 0 ∧ ∀ b, b < qt (DM (F (A 31) i).toInt.toNat) 3 → bdF (DM (F (A 31) i).toInt.toNat) b = .ok (F (A 12) ((F (A 8) (12 * (F (A 31) i).toInt.toNat + 10)).toInt.toNat + b)).toInt) ∧
  (∀ f, f < wno W → (F (A 44) f).toInt = wfo W f ∧ (F (A 45) f).toInt = (f - wff W (wfo W f) : Nat)) ∧
  (∀ i, i < wic W → (∀ k, k < nf (wd W i) → mnV A F DM i 0 k = fmp (fnI h W i k)) ∧ ∀ k, k < nvr (wd W i) → mnV A F DM i 3 k = vnI h W i k) ∧
  (∀ i, i < wic W → 0 < dn (wd W i) 3 / 3 → (F (A 48) (oV A F DM i 1).toInt.toNat).toInt = tbF h W i ∧ (F (A 49) (oV A F DM i 1).toInt.toNat).toInt = tbZ h W i) ∧
  (∀ e, e < wne W → ((xb_l h (ad 24) e).toInt = -1 ∧ F (A 51) e = 0) ∨ ∃ f : Nat, (xb_l h (ad 24) e).toInt = f ∧ vf W f ∧ (F (A 51) e).toInt = (fmp f + 1 : Nat)) ∧
  ∀ i, i < wic W → 0 < dn (wd W i) 4 / 3 → gmV A F DM i < 24 ∧ (most (gmV A F DM i)).toInt = mmX h W i ∧ ∀ i0, i0 < wic W → 0 < dn (wd W i0) 4 / 3 → (gmV A F DM i = gmV A F DM i0 ↔ mmA h W i = mmA h W i0)
section GD
variable {own own' ad ad' : Nat → Nat} {h h' : xb_H} {W : wD} {σ D : Nat} {gx gx' : Nat → fG} {v : Nat → Int64} {A : Nat → Nat} {F F' : Nat → Nat → Int32} {φ φ' : Nat → Nat → Int32} {DM : Nat → zM} {most : Nat → Int64} {gm : Nat → Nat} {w w' : rWd} {np : Nat}
theorem frQ.cg : ∀ {cs : List cX} {D : Nat}, frQ W φ DM gx cs D → (∀ j, j < D → gx' j = gx j) → frQ W φ DM gx' cs D
  | [], _, h9, _ => h9
  | y :: r, D, ⟨D', e1, e2, e3⟩, hg => by
    refine ⟨D', e1, ?_, frQ.cg e3 (fun j hj => hg j (by omega))⟩
    rw [hg D' (by omega)]
    exact e2
theorem frQ.len : ∀ {cs : List cX} {D : Nat}, frQ W φ DM gx cs D → cs.length = D
  | [], _, h9 => by
    have e : _ = 0 := h9
    rw [e]
    rfl
  | y :: r, D, ⟨D', e1, _, e3⟩ => by
    rw [List.length_cons, frQ.len e3, e1]
theorem fMo_cg (h31 : φ' 31 = φ 31) (h44 : φ' 44 = φ 44) : fMo φ' DM = fMo φ DM := by
  funext f
  unfold fMo aV
  rw [h31, h44]
theorem fQ.cgF {x : fG} {y : cX} (h31 : φ' 31 = φ 31) (h44 : φ' 44 = φ 44) (h9 : fQ W φ DM x y) : fQ W φ' DM x y := by
  unfold fQ
  rw [fMo_cg h31 h44]
  exact h9
theorem frQ.cgF (h31 : φ' 31 = φ 31) (h44 : φ' 44 = φ 44) : ∀ {cs : List cX} {D : Nat}, frQ W φ DM gx cs D → frQ W φ' DM gx cs D
  | [], _, h9 => h9
  | y :: r, D, ⟨D', e1, e2, e3⟩ => ⟨D', e1, e2.cgF h31 h44, frQ.cgF h31 h44 e3⟩
theorem oQ.cgF {o : Oc} {z : rZ} (h31 : φ' 31 = φ 31) (h44 : φ' 44 = φ 44) (h9 : oQ W φ DM o z) : oQ W φ' DM o z := by
  unfold oQ at *
  split
  · exact ⟨h9.1, h9.2.1.cgF h31 h44, h9.2.2⟩
  · exact h9
  · exact h9
  · next h1 h2 h3 =>
    split at h9
    · exact h1 _ _ _ _ _ _ rfl rfl
    · exact h2 _ _ _ _ rfl rfl
    · exact h3 _ _ rfl rfl
    · exact h9
theorem stQ.cgF (hk : ∀ k, k ∈ kB → F' (A k) = F (A k)) (hs : stQ h ad W A F DM most) : stQ h ad W A F' DM most := by
  unfold stQ mnV gmV oV at *
  rw [hk 31 (by decide), hk 6 (by decide), hk 10 (by decide), hk 12 (by decide), hk 8 (by decide), hk 44 (by decide), hk 45 (by decide), hk 32 (by decide), hk 33 (by decide), hk 35 (by decide), hk 36 (by decide), hk 37 (by decide), hk 38 (by decide), hk 48 (by decide), hk 49 (by decide), hk 51 (by decide)]
  exact hs
theorem gmV_cg (hk : ∀ k, k ∈ kB → F' (A k) = F (A k)) : gmV A F' DM = gmV A F DM := by
  funext i
  unfold gmV oV
  rw [hk 31 (by decide), hk 32 (by decide), hk 33 (by decide), hk 37 (by decide), hk 38 (by decide)]
theorem arV_of {τ : Int} {x : Int64} (hv : vr τ x) : arV τ x = x := by
  unfold arV
  split
  · next h1 =>
    obtain ⟨h2, h3⟩ := hv h1
    apply Int64.toInt.inj
    rw [Z_low]
    omega
  · rfl
/-- the function that is meant has the same type -/
theorem stQ.ft (hW : wI own ad h W σ) (hs : stQ h ad W A F DM most) {f : Nat} (hf : vf W f) : fPl (fun k => F (A k)) DM (fmp f) = (fT W f).1 ∧ fRt (fun k => F (A k)) DM (fmp f) = (fT W f).2 := by
  rcases hf with hf | hf
  · have h8 : f < 8192 := by have := hW.1.2.1; omega
    obtain ⟨o1, o2, o3, o4⟩ := hW.1.2.2 f hf
    obtain ⟨s1, s2⟩ := hs.2.1 f hf
    have hi := (hW.2.2.2.2.2.2.1.2.2.2 _ o2).2
    obtain ⟨q1, -⟩ := hs.1 _ o2
    have em : fMo (fun k => F (A k)) DM f = DM (F (A 31) (wfo W f)).toInt.toNat := by
      unfold fMo aV
      rw [s1]
      rfl
    have nn := q1.n.2.2.2.2.2.1 0 (by omega)
    have hk : f - wff W (wfo W f) + ni (wd W (wfo W f)) 0 < nf (wd W (wfo W f)) := by omega
    obtain ⟨k1, k2, k3, k4⟩ := q1.ft hi.1.2.2.2.2 hk
    have et : fTy (fun k => F (A k)) DM f = fty (DM (F (A 31) (wfo W f)).toInt.toNat) (f - wff W (wfo W f) + ni (wd W (wfo W f)) 0) := by
      unfold fTy aV
      rw [em, s2, Int.toNat_natCast, nn, Nat.add_comm]
    have e1 : fmp f = f := by unfold fmp; rw [if_neg (by omega)]
    unfold fPl fRt fT
    rw [e1, if_pos (show f < 100000 by omega), if_pos (show f < 100000 by omega), if_neg (show ¬ 8192 ≤ f by omega), k4, em, et]
    exact ⟨rfl, rfl⟩
  · unfold fPl fRt fT fmp
    rw [if_pos hf.1, if_neg (show ¬ f - 8192 + 100000 < 100000 by omega), if_neg (show ¬ f - 8192 + 100000 < 100000 by omega), if_pos hf.1]
    have e9 : (127 : Int) - (((f - 8192 + 100000 : Nat) : Int) - 100000) = 127 - ((f : Int) - 8192) := by omega
    rw [e9]
    exact ⟨rfl, rfl⟩
end GD
