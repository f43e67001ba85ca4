-- a run: what the machine holds
/-- types c, the topmost first, of values from place o on -/
def vst (v : Nat → Int64) (o : Nat) : List Int → Prop
  | [] => True
  | τ :: c => vr τ (v (o + c.length)) ∧ vst v o c
theorem vst.cg {v v' : Nat → Int64} {o : Nat} : ∀ {c : List Int}, vst v o c → (∀ j, o ≤ j → j < o + c.length → v' j = v j) → vst v' o c
  | [], _, _ => trivial
  | τ :: c, h, e => by
    refine ⟨?_, vst.cg h.2 (fun j h1 h2 => e j h1 (by simp only [List.length_cons]; omega))⟩
    rw [e _ (by omega) (by simp only [List.length_cons]; omega)]
    exact h.1
theorem vst.app {v : Nat → Int64} {o : Nat} {c : List Int} : ∀ {a : List Int}, vst v o (a ++ c) ↔ vst v (o + c.length) a ∧ vst v o c
  | [] => by simp [vst]
  | τ :: a => by
    have ih := vst.app (v := v) (o := o) (c := c) (a := a)
    simp only [List.cons_append, vst, List.length_append, ih, and_assoc, show o + (a.length + c.length) = o + c.length + a.length by omega]
theorem ptl_len {cb : Nat → Int32} {pa : Nat} : ∀ P, (ptl cb pa P).length = P
  | 0 => rfl
  | P + 1 => by
    show (ptl cb pa P).length + 1 = P + 1
    rw [ptl_len P]
theorem vst_ptl {v : Nat → Int64} {o : Nat} {cb : Nat → Int32} {pa : Nat} : ∀ {P : Nat}, vst v o (ptl cb pa P) ↔ ∀ i, i < P → vr (cb (pa + i)).toInt (v (o + i))
  | 0 => ⟨fun _ i hi => by omega, fun _ => trivial⟩
  | P + 1 => by
    have ih := vst_ptl (v := v) (o := o) (cb := cb) (pa := pa) (P := P)
    show vr (cb (pa + P)).toInt (v (o + (ptl cb pa P).length)) ∧ vst v o (ptl cb pa P) ↔ _
    rw [ptl_len, ih]
    constructor
    · intro ⟨h1, h2⟩ i hi
      by_cases e : i = P
      · subst e; exact h1
      · exact h2 i (by omega)
    · intro h
      exact ⟨h P (by omega), fun i hi => h i (by omega)⟩
/-- a body as it was checked: function k, its type t, its parameters, own locals, first place, end, room -/
def fB (d : mD) (k t P lcn p0 E : Nat) (lo ν0 : Nat → Int32) (g : Nat) (G : ctG) : Prop :=
  (ni d 0 ≤ k ∧ k < nf d ∧ (dvs d 2 (2 * k + 1)).toInt = t ∧ t < dn d 0 / 5 ∧ (dvs d 0 (5 * t + 2)).toInt = P) ∧ ((dvs d 9 (5 * (k - ni d 0))).toInt = p0 ∧ (dvs d 9 (5 * (k - ni d 0) + 1)).toInt = lcn ∧ lcn ≤ 1000 ∧ p0 < E ∧ E ≤ dN d ∧ (dvs d 9 (5 * (k - ni d 0) + 4)).toInt = g ∧ g ≤ dN d ∧ ∀ j, j < lcn → 124 ≤ (lo j).toInt ∧ (lo j).toInt ≤ 127) ∧
  G 0 p0 [] [] ∧ (∀ a c gs, G 0 a c gs → (p0 ≤ a ∧ a < E ∧ c.length ≤ g ∧ cnc c ∧ ct_w (dcb d) ν0 E a gs) ∧ ct_LC (dn d) (dvs d) (dcb d) lo t lcn ν0 G (ct_B (dnu d) p0 E) ((dcb d a).toInt % 256) a c gs) ∧ (∀ o c gs, G 1 o c gs → ct_ra (dcb d) G (ct_B (dnu d) p0 E) o c gs) ∧ (∀ o c gs, G 2 o c gs → ct_rb (dcb d) G (ct_B (dnu d) p0 E) o c gs) ∧ (∀ o c gs, G 3 o c gs → ct_rc (dcb d) G (ct_B (dnu d) p0 E) o c gs) ∧ dX d k p0 E ν0 G
/-- all bodies of a module -/
def moB (d : mD) : Prop := ∀ k, ni d 0 ≤ k → k < nf d → ∃ (t P lcn p0 E : Nat) (lo ν0 : Nat → Int32) (g : Nat) (G : ctG), fB d k t P lcn p0 E lo ν0 g G ∧ 5 * (k - ni d 0) + 5 ≤ dn d 9
/-- an open call: whose, which function, base, operands, place, types -/
abbrev fG : Type := Nat × Nat × Nat × Nat × Nat × List Int × List gF
def gI (x : fG) : Nat := x.1
def gK (x : fG) : Nat := x.2.1
def gB (x : fG) : Nat := x.2.2.1
def gO (x : fG) : Nat := x.2.2.2.1
def gA (x : fG) : Nat := x.2.2.2.2.1
def gC (x : fG) : List Int := x.2.2.2.2.2.1
/-- what is open in it -/
def gS (x : fG) : List gF := x.2.2.2.2.2.2
/-- the type of what a call gives -/
def rT (W : wD) (x : fG) : Int := (ftm (wd W (gI x)) (gK x)).2
def FO (W : wD) (nV : Nat) (v : Nat → Int64) (fr : Nat → Int32) (j : Nat) (x : fG) (pre : List Int) : Prop :=
  ((fr (5 * j)).toInt = gI x ∧ (fr (5 * j + 1)).toInt = gK x ∧ (fr (5 * j + 3)).toInt = gB x ∧ (fr (5 * j + 4)).toInt = gO x) ∧ gI x < wic W ∧
  ∃ (t P lcn p0 E : Nat) (lo ν0 : Nat → Int32) (g : Nat) (G : ctG), fB (wd W (gI x)) (gK x) t P lcn p0 E lo ν0 g G ∧ gO x = gB x + P + lcn ∧ gO x + g ≤ nV ∧ G 0 (gA x) (pre ++ gC x) (gS x) ∧ (∀ i, i < P + lcn → vr (ck_lt (dcb (wd W (gI x))) lo (dvs (wd W (gI x)) 0 (5 * t + 1)).toInt.toNat P i) (v (gB x + i))) ∧ vst v (gO x) (gC x)
/-- rows of the machine that stay -/
def mS (ad : Nat → Nat) (h : xb_H) : Prop := xb_n h (ad 36) = 4 ∧ xb_n h (ad 38) = 1000 ∧ 64 ≤ xb_n h (ad 37) ∧ xb_n h (ad 37) ≤ 16384
/-- the latest call: what the machine keeps of it, top aside -/
def mT (ad : Nat → Nat) (h : xb_H) (W : wD) (x : fG) : Prop :=
  (xb_i h (ad 15) 15).toInt = gA x ∧ (xb_i h (ad 15) 16).toInt = gB x ∧ (xb_i h (ad 15) 17).toInt = gO x ∧ xb_r h (ad 15) 12 = some (wia W (gI x)) ∧ xb_r h (ad 15) 13 = some (dcd (wd W (gI x))) ∧ xb_r h (ad 15) 14 = some (dnt (wd W (gI x)))
/-- a run with D open calls -/
def rI (ad : Nat → Nat) (h : xb_H) (W : wD) (D : Nat) (gx : Nat → fG) : Prop :=
  (0 < D ∧ D ≤ 200 ∧ (xb_i h (ad 15) 3).toInt = 1 ∧ (xb_i h (ad 15) 4).toInt = D ∧ (xb_i h (ad 15) 8).toInt = -1) ∧ ((xb_i h (ad 15) 10).toInt = (gO (gx (D - 1)) + (gC (gx (D - 1))).length : Nat) ∧ mT ad h W (gx (D - 1))) ∧
  (∀ j, j < D → FO W (xb_n h (ad 37)) (xb_l h (ad 37)) (xb_i h (ad 38)) j (gx j) (if j + 1 = D then [] else tp (rT W (gx (j + 1))))) ∧ (∀ j, j + 1 < D → (xb_i h (ad 38) (5 * j + 2)).toInt = gA (gx j) ∧ gB (gx (j + 1)) = gO (gx j) + (gC (gx j)).length) ∧ gB (gx 0) = 0
/-- the machine: at rest, about to call, or running -/
def rS (ad : Nat → Nat) (h : xb_H) (W : wD) : Prop :=
  ((xb_i h (ad 15) 3).toInt = 0 ∧ (xb_i h (ad 15) 4).toInt = 0) ∨
  (∃ f : Nat, (xb_i h (ad 15) 3).toInt = 1 ∧ (xb_i h (ad 15) 4).toInt = 0 ∧ (xb_i h (ad 15) 8).toInt = f ∧ vf W f ∧ (xb_i h (ad 15) 10).toInt = ((fT W f).1.length : Nat) ∧ (fT W f).1.length ≤ xb_n h (ad 37) ∧ vst (xb_l h (ad 37)) 0 (fT W f).1) ∨
  ∃ (D : Nat) (gx : Nat → fG), rI ad h W D gx
section RN1
variable {own own' ad ad' : Nat → Nat} {h h' : xb_H} {W : wD} {σ : Nat}
end RN1
/-- the same place and types, others -/
def gT_ (x : fG) (a : Nat) (c : List Int) (s : List gF) : fG := (gI x, gK x, gB x, gO x, a, c, s)
/-- what comes of a step: it goes on, ends with a result, or falls -/
abbrev Oc : Type := (Nat × (Nat → fG) × (Nat → Int64)) ⊕ (Int64 ⊕ (Int × Int × Int × Int))
def oR (ad : Nat → Nat) (h : xb_H) (ad' : Nat → Nat) (h' : xb_H) (W : wD) (o : Oc) : Prop := match o with
  | .inl (D, gx, v) => rI ad' h' W D gx ∧ (∀ j, j < gO (gx (D - 1)) + (gC (gx (D - 1))).length → xb_l h' (ad' 37) j = v j) ∧ xb_l h' (ad 15) = xb_l h (ad 15) ∧ xb_i h' (ad 15) 7 = xb_i h (ad 15) 7 ∧ xb_i h' (ad 36) = xb_i h (ad 36)
  | .inr (.inl y) => ((xb_i h' (ad 15) 3).toInt = 0 ∧ (xb_i h' (ad 15) 4).toInt = 0) ∧ xb_l h' (ad 15) 5 = y ∧ xb_i h' (ad 15) 7 = xb_i h (ad 15) 7 ∧ xb_i h' (ad 36) = xb_i h (ad 36)
  | .inr (.inr z) => ((xb_i h' (ad 15) 3).toInt = 0 ∧ (xb_i h' (ad 15) 4).toInt = 0) ∧ xb_l h' (ad 15) = xb_l h (ad 15) ∧ xb_i h' (ad 15) 7 = 1 ∧ (xb_i h' (ad 36) 0).toInt = z.1 ∧ (xb_i h' (ad 36) 1).toInt = z.2.1 ∧ (xb_i h' (ad 36) 2).toInt = z.2.2.1 ∧ (xb_i h' (ad 36) 3).toInt = z.2.2.2
/-- a trap, with or without a call -/
def trZ (k : Int) (D : Nat) (gx : Nat → fG) (a : Int) : Int × Int × Int × Int := (k, if D = 0 then (-1, -1, -1) else ((gI (gx (D - 1)) : Int), (gK (gx (D - 1)) : Int), a))
def trD (k : Int) (D : Nat) (gx : Nat → fG) (a : Int) : Oc := .inr (.inr (trZ k D gx a))
theorem oR.cg {ad ad2 ad' : Nat → Nat} {h h2 h' : xb_H} {W : wD} {o : Oc} (hr : oR ad2 h2 ad' h' W o) (a15 : ad2 15 = ad 15) (a36 : ad2 36 = ad 36) (l15 : xb_l h2 (ad 15) = xb_l h (ad 15)) (i15 : xb_i h2 (ad 15) 7 = xb_i h (ad 15) 7) (i36 : xb_i h2 (ad 36) = xb_i h (ad 36)) : oR ad h ad' h' W o := by
  unfold oR at *
  rw [a15, a36, l15, i15, i36] at hr
  exact hr
