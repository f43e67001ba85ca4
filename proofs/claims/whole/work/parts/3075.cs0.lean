-- the class's state: where everything lies
/-- a module's data: code, notes, imported, length, rows, their items, sizes, what they hold, bytes, notes, how many are imported -/
abbrev mD : Type := Nat × Nat × Nat × Nat × (Nat → Nat) × (Nat → Nat) × (Nat → Nat) × (Nat → Nat → Int64) × (Nat → Int32) × (Nat → Int32) × (Nat → Int32) × (Nat → Nat → Nat → (Nat → Int32) → ctG → Prop)
def dcd (d : mD) : Nat := d.1
def dnt (d : mD) : Nat := d.2.1
def dim (d : mD) : Nat := d.2.2.1
def dN (d : mD) : Nat := d.2.2.2.1
def drw (d : mD) : Nat → Nat := d.2.2.2.2.1
def dit (d : mD) : Nat → Nat := d.2.2.2.2.2.1
def dn (d : mD) : Nat → Nat := d.2.2.2.2.2.2.1
def dvs (d : mD) : Nat → Nat → Int64 := d.2.2.2.2.2.2.2.1
def dcb (d : mD) : Nat → Int32 := d.2.2.2.2.2.2.2.2.1
def dnu (d : mD) : Nat → Int32 := d.2.2.2.2.2.2.2.2.2.1
def div_ (d : mD) : Nat → Int32 := d.2.2.2.2.2.2.2.2.2.2.1
/-- what more is known of a body's witnesses -/
def dX (d : mD) : Nat → Nat → Nat → (Nat → Int32) → ctG → Prop := d.2.2.2.2.2.2.2.2.2.2.2
/-- a module that lies in the heap and is valid; 1: nothing changes it any more -/
def mo (own : Nat → Nat) (h : xb_H) (md : Nat) (d : mD) : Prop :=
  md_M h md (dcd d) (dnt d) (dim d) (dN d) (drw d) (dit d) (dn d) (dvs d) (dcb d) (dnu d) (div_ d) ∧ mv (dN d) (dn d) (dvs d) (dcb d) (dnu d) (div_ d) (xb_i h md 15).toInt (xb_i h md 16).toInt ∧
  own md = 1 ∧ own (dcd d) = 1 ∧ own (dnt d) = 1 ∧ own (dim d) = 1 ∧ ∀ k, k < 12 → own (drw d k) = 1 ∧ own (dit d k) = 1
theorem xr_row.fr {h h' : xb_H} {r c n q : Nat} (hr : xr_row h r c n q) (s : xh_sm h h' r) (he : xb_ext h h') : xr_row h' r c n q := by
  obtain ⟨b1, b2, b3, b4, b5, b6, b7, b8⟩ := hr
  exact ⟨he.k (c := 1) b1, by rw [s.1]; exact b2, by rw [s.1]; exact b3, by rw [s.2.2]; exact b4, he.k (c := 102) b5, by rw [he.n (c := 102) b5]; exact b6, by rw [he.n (c := 102) b5]; exact b7, by rw [he.n (c := 102) b5]; exact b8⟩
theorem mo.fr {own own' : Nat → Nat} {h h' : xb_H} {md : Nat} {d : mD} (hm : mo own h md d) (hs : ∀ a, xb_k h a ≠ 0 → own a = 1 → xh_sm h h' a) (he : xb_ext h h') (ho : ∀ a, xb_k h a ≠ 0 → own a = 1 → own' a = 1) : mo own' h' md d := by
  obtain ⟨⟨⟨a1, a2, a3, a4, a5⟩, ⟨a6, a7, a8, a9⟩, a10, ⟨a11, a12, a13, a14⟩, a15⟩, m2, o1, o2, o3, o4, o5⟩ := hm
  have nz : ∀ a c, xb_k h a = c + 1 → xb_k h a ≠ 0 := fun a c e => by rw [e]; omega
  have s1 := hs md (nz _ 2 a1) o1
  have s2 := hs _ (nz _ 99 a3) o2
  have s3 := hs _ (nz _ 101 a7) o3
  have s4 := hs _ (nz _ 101 a12) o4
  refine ⟨⟨⟨he.k (c := 2) a1, by rw [s1.2.2]; exact a2, he.k (c := 99) a3, by rw [he.n (c := 99) a3]; exact a4, by rw [s2.1]; exact a5⟩, ⟨by rw [s1.2.2]; exact a6, he.k (c := 101) a7, by rw [he.n (c := 101) a7]; exact a8, by rw [s3.1]; exact a9⟩, fun k hk => ?_, ⟨by rw [s1.2.2]; exact a11, he.k (c := 101) a12, by rw [he.n (c := 101) a12]; exact a13, by rw [s4.1]; exact a14⟩, a15⟩, by rw [s1.1]; exact m2, ho _ (nz _ 2 a1) o1, ho _ (nz _ 99 a3) o2, ho _ (nz _ 101 a7) o3, ho _ (nz _ 101 a12) o4, fun k hk => ?_⟩
  · obtain ⟨b1, b2, b3⟩ := a10 k hk
    have s5 := hs _ (nz _ 1 b2.1) (o5 k hk).1
    have s6 := hs _ (nz _ 102 b2.2.2.2.2.1) (o5 k hk).2
    exact ⟨by rw [s1.2.2]; exact b1, b2.fr s5 he, fun j hj => by rw [s6.2.1]; exact b3 j hj⟩
  · obtain ⟨b1, b2, b3⟩ := a10 k hk
    exact ⟨ho _ (nz _ 1 b2.1) (o5 k hk).1, ho _ (nz _ 102 b2.2.2.2.2.1) (o5 k hk).2⟩
/-- kinds of what the class has: 0 itself, 1 tape, 2 modules, 3 reader, 4 opened, 5 checker, 6 operands, 7 .. 13 its rows, 14 world, 15 machine, 16 arguments, 18 instances, 19 owners, 21 variables, 23 elements, 25 words, 27 out, 29 names, 31 their bytes, 32 and 34 what was found, 36 the latest trap, 37 values, 38 frames, 39 and 40 formats; items of a row stand behind it -/
def kdl (k : Nat) : Nat := [1, 100, 104, 4, 102, 5, 100, 100, 102, 102, 102, 102, 102, 101, 7, 8, 2, 103, 105, 2, 103, 2, 103, 2, 103, 2, 103, 2, 103, 2, 103, 100, 2, 103, 2, 103, 102, 103, 102, 6, 6].getD k 0
def cRl : List (Nat × Nat × Nat) := [(0, 0, 1), (0, 2, 2), (0, 4, 3), (0, 5, 5), (0, 6, 14), (0, 7, 15), (0, 8, 16), (3, 5, 4), (5, 3, 6), (5, 6, 7), (5, 10, 8), (5, 11, 9), (5, 12, 10), (5, 13, 11), (5, 14, 12), (5, 15, 13), (14, 0, 18), (14, 2, 19), (14, 3, 21), (14, 4, 23), (14, 5, 25), (14, 6, 27), (14, 9, 29), (14, 10, 31), (14, 12, 32), (14, 13, 34), (15, 0, 14), (15, 1, 39), (15, 2, 40), (15, 6, 36), (15, 9, 37), (15, 11, 38), (16, 0, 17), (19, 0, 20), (21, 0, 22), (23, 0, 24), (25, 0, 26), (27, 0, 28), (29, 0, 30), (32, 0, 33), (34, 0, 35)]
def cB (own ad : Nat → Nat) (h : xb_H) : Prop := (∀ k, k < 41 → own (ad k) = k + 2 ∧ xb_k h (ad k) = kdl k) ∧ ∀ e ∈ cRl, xb_r h (ad e.1) e.2.1 = some (ad e.2.2)
section CS0
variable {own own' ad : Nat → Nat} {h h' : xb_H}
theorem cB.ne (hB : cB own ad h) {i j : Nat} (hi : i < 41) (hj : j < 41) (hij : i ≠ j) : ad i ≠ ad j := fun e => by
  have h1 := (hB.1 i hi).1
  have h2 := (hB.1 j hj).1
  rw [e, h2] at h1
  omega
theorem cB.n1 (hB : cB own ad h) {i a : Nat} (hi : i < 41) (ha : own a = 1) : a ≠ ad i := fun e => by
  have h1 := (hB.1 i hi).1
  rw [← e, ha] at h1
  omega
theorem cB.nk (hB : cB own ad h) {i a c : Nat} (hi : i < 41) (ha : own a = c) (hc : c < 2 ∨ 42 < c) : a ≠ ad i := fun e => by
  have h1 := (hB.1 i hi).1
  rw [← e, ha] at h1
  omega
theorem cB.k (hB : cB own ad h) (i : Nat) (hi : i < 41) : xb_k h (ad i) = kdl i := (hB.1 i hi).2
theorem cB.z (hB : cB own ad h) (i : Nat) (hi : i < 41) : xb_k h (ad i) ≠ 0 := by
  rw [hB.k i hi]
  have : ∀ i, i < 41 → kdl i ≠ 0 := by decide
  exact this i hi
theorem cB.r (hB : cB own ad h) (e : Nat × Nat × Nat) (he : e ∈ cRl) : xb_r h (ad e.1) e.2.1 = some (ad e.2.2) := hB.2 e he
theorem cB.o (hB : cB own ad h) (i : Nat) (hi : i < 41) : own (ad i) = i + 2 := (hB.1 i hi).1
end CS0
