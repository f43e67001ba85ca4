-- the heap by addresses: of each its kind (0: none of ours; a class's place and one; 100 and on: arrays), its length, its numbers, longs and references
abbrev xb_H : Type := (Nat → Nat) × (Nat → Nat) × (Nat → Nat → Int32) × (Nat → Nat → Int64) × (Nat → Nat → Option Nat)
def xb_k (h : xb_H) (a : Nat) : Nat := h.1 a
def xb_n (h : xb_H) (a : Nat) : Nat := h.2.1 a
def xb_i (h : xb_H) (a : Nat) : Nat → Int32 := h.2.2.1 a
def xb_l (h : xb_H) (a : Nat) : Nat → Int64 := h.2.2.2.1 a
def xb_r (h : xb_H) (a : Nat) : Nat → Option Nat := h.2.2.2.2 a
def xb_Ia (h : xb_H) (a : Nat) (f : Nat → Int32) : xb_H := (h.1, h.2.1, va_up h.2.2.1 a f, h.2.2.2.1, h.2.2.2.2)
def xb_La (h : xb_H) (a : Nat) (f : Nat → Int64) : xb_H := (h.1, h.2.1, h.2.2.1, va_up h.2.2.2.1 a f, h.2.2.2.2)
def xb_Pa (h : xb_H) (a : Nat) (f : Nat → Option Nat) : xb_H := (h.1, h.2.1, h.2.2.1, h.2.2.2.1, va_up h.2.2.2.2 a f)
def xb_I (h : xb_H) (a k : Nat) (x : Int32) : xb_H := xb_Ia h a (va_up (xb_i h a) k x)
def xb_L (h : xb_H) (a k : Nat) (x : Int64) : xb_H := xb_La h a (va_up (xb_l h a) k x)
def xb_P (h : xb_H) (a k : Nat) (x : Option Nat) : xb_H := xb_Pa h a (va_up (xb_r h a) k x)
def xb_new (h : xb_H) (a kd n : Nat) : xb_H := (va_up h.1 a kd, va_up h.2.1 a n, va_up h.2.2.1 a (fun _ => 0), va_up h.2.2.2.1 a (fun _ => 0), va_up h.2.2.2.2 a (fun _ => none))
theorem xb_up_s {α : Type} (f : Nat → α) (k : Nat) (x : α) : va_up f k x k = x := by simp [va_up]
theorem xb_up_n {α : Type} (f : Nat → α) {k j : Nat} (x : α) (h : j ≠ k) : va_up f k x j = f j := by simp [va_up, h]
def xb_ext (h h' : xb_H) : Prop := ∀ a, xb_k h a ≠ 0 → xb_k h' a = xb_k h a ∧ xb_n h' a = xb_n h a
theorem xb_ext.rf (h : xb_H) : xb_ext h h := fun _ _ => ⟨rfl, rfl⟩
theorem xb_ext.tr {h h1 h2 : xb_H} (e1 : xb_ext h h1) (e2 : xb_ext h1 h2) : xb_ext h h2 := fun a ha => by
  have h1 := e1 a ha
  have h2 := e2 a (by rw [h1.1]; exact ha)
  exact ⟨h2.1.trans h1.1, h2.2.trans h1.2⟩
theorem xb_ext.new {h h1 : xb_H} {q : Nat} (kd n : Nat) (e1 : xb_ext h h1) (hq : xb_k h1 q = 0) : xb_ext h (xb_new h1 q kd n) := fun a ha => by
  have h2 := e1 a ha
  have hne : a ≠ q := fun hx => by
    subst hx
    rw [h2.1] at hq
    exact ha hq
  exact ⟨(xb_up_n h1.1 kd hne).trans h2.1, (xb_up_n h1.2.1 n hne).trans h2.2⟩
theorem xb_ext.k {h h1 : xb_H} (e1 : xb_ext h h1) {a c : Nat} (hk : xb_k h a = c + 1) : xb_k h1 a = c + 1 := (e1 a (by rw [hk]; exact Nat.succ_ne_zero c)).1.trans hk
theorem xb_ext.n {h h1 : xb_H} (e1 : xb_ext h h1) {a c : Nat} (hk : xb_k h a = c + 1) : xb_n h1 a = xb_n h a := (e1 a (by rw [hk]; exact Nat.succ_ne_zero c)).2
theorem xb_nk {h : xb_H} {q a kd n c : Nat} (hq : xb_k h q = 0) (hk : xb_k h a = c + 1) : xb_k (xb_new h q kd n) a = c + 1 := (xb_up_n h.1 kd (fun hx => by subst hx; rw [hk] at hq; cases hq)).trans hk
-- a method's start and end
def xb_ushr (x y : Int32) : Int32 := (x.toUInt32 >>> (y.toUInt32 &&& Int32.toUInt32 31)).toInt32
def xb_lushr (x : Int64) (y : Int32) : Int64 := (x.toUInt64 >>> (y.toInt64.toUInt64 &&& Int64.toUInt64 63)).toInt64
def xb_lshl (x : Int64) (y : Int32) : Int64 := x <<< (y.toInt64 &&& 63)
def xb_lshr (x : Int64) (y : Int32) : Int64 := x >>> (y.toInt64 &&& 63)
def xb_cSIG : List Int32 := [69, 1, 127, 127, 79, 2, 127, 127, 80, 1, 126, 127, 90, 2, 126, 127, 96, 2, 125, 127, 102, 2, 124, 127, 105, 1, 127, 127, 120, 2, 127, 127, 123, 1, 126, 126, 138, 2, 126, 126, 145, 1, 125, 125, 152, 2, 125, 125, 159, 1, 124, 124, 166, 2, 124, 124, 167, 1, 126, 127, 169, 1, 125, 127, 171, 1, 124, 127, 173, 1, 127, 126, 175, 1, 125, 126, 177, 1, 124, 126, 179, 1, 127, 125, 181, 1, 126, 125, 182, 1, 124, 125, 184, 1, 127, 124, 186, 1, 126, 124, 187, 1, 125, 124, 188, 1, 125, 127, 189, 1, 124, 126, 190, 1, 127, 125, 191, 1, 126, 124]
def xb_cMT : List Int32 := [127, 126, 125, 124, 127, 127, 127, 127, 126, 126, 126, 126, 126, 126, 127, 126, 125, 124, 127, 127, 126, 126, 126]
def xb_cMB : List Int32 := [4, 8, 4, 8, 1, 1, 2, 2, 1, 1, 2, 2, 4, 4, 4, 8, 4, 8, 1, 2, 1, 2, 4]
def xb_cHX : List Int32 := [105, 108, 102, 100]
def xt_mg (k : Nat) : Int32 := ([0, 97, 115, 109, 1, 0, 0, 0] : List Int32).getD k 0
