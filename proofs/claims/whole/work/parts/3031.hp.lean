-- the heap by addresses: what is read behind what was written
theorem xh_kI (h : xb_H) (a k : Nat) (x : Int32) : xb_k (xb_I h a k x) = xb_k h := rfl
theorem xh_kL (h : xb_H) (a k : Nat) (x : Int64) : xb_k (xb_L h a k x) = xb_k h := rfl
theorem xh_kP (h : xb_H) (a k : Nat) (x : Option Nat) : xb_k (xb_P h a k x) = xb_k h := rfl
theorem xh_kIa (h : xb_H) (a : Nat) (f : Nat → Int32) : xb_k (xb_Ia h a f) = xb_k h := rfl
theorem xh_kLa (h : xb_H) (a : Nat) (f : Nat → Int64) : xb_k (xb_La h a f) = xb_k h := rfl
theorem xh_kPa (h : xb_H) (a : Nat) (f : Nat → Option Nat) : xb_k (xb_Pa h a f) = xb_k h := rfl
theorem xh_nI (h : xb_H) (a k : Nat) (x : Int32) : xb_n (xb_I h a k x) = xb_n h := rfl
theorem xh_nL (h : xb_H) (a k : Nat) (x : Int64) : xb_n (xb_L h a k x) = xb_n h := rfl
theorem xh_nP (h : xb_H) (a k : Nat) (x : Option Nat) : xb_n (xb_P h a k x) = xb_n h := rfl
theorem xh_nIa (h : xb_H) (a : Nat) (f : Nat → Int32) : xb_n (xb_Ia h a f) = xb_n h := rfl
theorem xh_nLa (h : xb_H) (a : Nat) (f : Nat → Int64) : xb_n (xb_La h a f) = xb_n h := rfl
theorem xh_nPa (h : xb_H) (a : Nat) (f : Nat → Option Nat) : xb_n (xb_Pa h a f) = xb_n h := rfl
theorem xh_iL (h : xb_H) (a k : Nat) (x : Int64) : xb_i (xb_L h a k x) = xb_i h := rfl
theorem xh_iP (h : xb_H) (a k : Nat) (x : Option Nat) : xb_i (xb_P h a k x) = xb_i h := rfl
theorem xh_iLa (h : xb_H) (a : Nat) (f : Nat → Int64) : xb_i (xb_La h a f) = xb_i h := rfl
theorem xh_iPa (h : xb_H) (a : Nat) (f : Nat → Option Nat) : xb_i (xb_Pa h a f) = xb_i h := rfl
theorem xh_lI (h : xb_H) (a k : Nat) (x : Int32) : xb_l (xb_I h a k x) = xb_l h := rfl
theorem xh_lP (h : xb_H) (a k : Nat) (x : Option Nat) : xb_l (xb_P h a k x) = xb_l h := rfl
theorem xh_lIa (h : xb_H) (a : Nat) (f : Nat → Int32) : xb_l (xb_Ia h a f) = xb_l h := rfl
theorem xh_lPa (h : xb_H) (a : Nat) (f : Nat → Option Nat) : xb_l (xb_Pa h a f) = xb_l h := rfl
theorem xh_rI (h : xb_H) (a k : Nat) (x : Int32) : xb_r (xb_I h a k x) = xb_r h := rfl
theorem xh_rL (h : xb_H) (a k : Nat) (x : Int64) : xb_r (xb_L h a k x) = xb_r h := rfl
theorem xh_rIa (h : xb_H) (a : Nat) (f : Nat → Int32) : xb_r (xb_Ia h a f) = xb_r h := rfl
theorem xh_rLa (h : xb_H) (a : Nat) (f : Nat → Int64) : xb_r (xb_La h a f) = xb_r h := rfl
theorem xh_iI (h : xb_H) (a k : Nat) (x : Int32) (b : Nat) : xb_i (xb_I h a k x) b = if b = a then va_up (xb_i h a) k x else xb_i h b := by
  show va_up h.2.2.1 a (va_up (xb_i h a) k x) b = _
  unfold va_up
  rfl
theorem xh_iIa (h : xb_H) (a : Nat) (f : Nat → Int32) (b : Nat) : xb_i (xb_Ia h a f) b = if b = a then f else xb_i h b := by
  show va_up h.2.2.1 a f b = _
  unfold va_up
  rfl
theorem xh_lL (h : xb_H) (a k : Nat) (x : Int64) (b : Nat) : xb_l (xb_L h a k x) b = if b = a then va_up (xb_l h a) k x else xb_l h b := by
  show va_up h.2.2.2.1 a (va_up (xb_l h a) k x) b = _
  unfold va_up
  rfl
theorem xh_lLa (h : xb_H) (a : Nat) (f : Nat → Int64) (b : Nat) : xb_l (xb_La h a f) b = if b = a then f else xb_l h b := by
  show va_up h.2.2.2.1 a f b = _
  unfold va_up
  rfl
theorem xh_rP (h : xb_H) (a k : Nat) (x : Option Nat) (b : Nat) : xb_r (xb_P h a k x) b = if b = a then va_up (xb_r h a) k x else xb_r h b := by
  show va_up h.2.2.2.2 a (va_up (xb_r h a) k x) b = _
  unfold va_up
  rfl
theorem xh_rPa (h : xb_H) (a : Nat) (f : Nat → Option Nat) (b : Nat) : xb_r (xb_Pa h a f) b = if b = a then f else xb_r h b := by
  show va_up h.2.2.2.2 a f b = _
  unfold va_up
  rfl
theorem xh_kN (h : xb_H) (q kd n b : Nat) : xb_k (xb_new h q kd n) b = if b = q then kd else xb_k h b := rfl
theorem xh_nN (h : xb_H) (q kd n b : Nat) : xb_n (xb_new h q kd n) b = if b = q then n else xb_n h b := rfl
theorem xh_iN (h : xb_H) (q kd n b : Nat) : xb_i (xb_new h q kd n) b = if b = q then (fun _ => 0) else xb_i h b := rfl
theorem xh_lN (h : xb_H) (q kd n b : Nat) : xb_l (xb_new h q kd n) b = if b = q then (fun _ => 0) else xb_l h b := rfl
theorem xh_rN (h : xb_H) (q kd n b : Nat) : xb_r (xb_new h q kd n) b = if b = q then (fun _ => none) else xb_r h b := rfl
theorem xh_up {α : Type} (f : Nat → α) (k : Nat) (x : α) (j : Nat) : va_up f k x j = if j = k then x else f j := rfl
/-- an address's numbers, longs and references are what they were -/
def xh_sm (h h' : xb_H) (a : Nat) : Prop := xb_i h' a = xb_i h a ∧ xb_l h' a = xb_l h a ∧ xb_r h' a = xb_r h a
theorem xh_sm.rf (h : xb_H) (a : Nat) : xh_sm h h a := ⟨rfl, rfl, rfl⟩
theorem xh_sm.tr {h h1 h2 : xb_H} {a : Nat} (e1 : xh_sm h h1 a) (e2 : xh_sm h1 h2 a) : xh_sm h h2 a := ⟨e2.1.trans e1.1, e2.2.1.trans e1.2.1, e2.2.2.trans e1.2.2⟩
theorem xh_smI (h : xb_H) {a b : Nat} (k : Nat) (x : Int32) (hb : b ≠ a) : xh_sm h (xb_I h a k x) b := ⟨by rw [xh_iI, if_neg hb], rfl, rfl⟩
theorem xh_smL (h : xb_H) {a b : Nat} (k : Nat) (x : Int64) (hb : b ≠ a) : xh_sm h (xb_L h a k x) b := ⟨rfl, by rw [xh_lL, if_neg hb], rfl⟩
theorem xh_smP (h : xb_H) {a b : Nat} (k : Nat) (x : Option Nat) (hb : b ≠ a) : xh_sm h (xb_P h a k x) b := ⟨rfl, rfl, by rw [xh_rP, if_neg hb]⟩
theorem xh_smIa (h : xb_H) {a b : Nat} (f : Nat → Int32) (hb : b ≠ a) : xh_sm h (xb_Ia h a f) b := ⟨by rw [xh_iIa, if_neg hb], rfl, rfl⟩
theorem xh_smLa (h : xb_H) {a b : Nat} (f : Nat → Int64) (hb : b ≠ a) : xh_sm h (xb_La h a f) b := ⟨rfl, by rw [xh_lLa, if_neg hb], rfl⟩
theorem xh_smN (h : xb_H) {q b : Nat} (kd n : Nat) (hb : b ≠ q) : xh_sm h (xb_new h q kd n) b := ⟨by rw [xh_iN, if_neg hb], by rw [xh_lN, if_neg hb], by rw [xh_rN, if_neg hb]⟩
theorem xh_exN (h : xb_H) {q : Nat} (kd n : Nat) (hq : xb_k h q = 0) : xb_ext h (xb_new h q kd n) := (xb_ext.rf h).new kd n hq
theorem xh_ne {h : xb_H} {a b k : Nat} (ha : xb_k h a = k) (hb : xb_k h b ≠ k) : b ≠ a := fun e => hb (e ▸ ha)
theorem xh_LaLa (h : xb_H) (a : Nat) (f g : Nat → Int64) : xb_La (xb_La h a f) a g = xb_La h a g := by
  unfold xb_La
  simp only [bx_uu]
theorem xh_LaL (h : xb_H) (a k : Nat) (x : Int64) (g : Nat → Int64) : xb_La (xb_L h a k x) a g = xb_La h a g := xh_LaLa h a _ g
theorem xh_IaIa (h : xb_H) (a : Nat) (f g : Nat → Int32) : xb_Ia (xb_Ia h a f) a g = xb_Ia h a g := by
  unfold xb_Ia
  simp only [bx_uu]
theorem xh_IaI (h : xb_H) (a k : Nat) (x : Int32) (g : Nat → Int32) : xb_Ia (xb_I h a k x) a g = xb_Ia h a g := xh_IaIa h a _ g
