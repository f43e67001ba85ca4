-- the reader with all that it fills: its state
def rd_G (h0 h : xb_H) (rd op md cd nt im N M rc rs : Nat) (rw : Nat → Nat) (cb : Nat → Int32) (it n : Nat → Nat) (vs : Nat → Nat → Int64) (ν iv : Nat → Int32) (a : Nat) (l : Int) (bc bs : Nat) : Prop :=
  rd_X h0 h rd op md ∧ rd_s h rd md cd N a l ∧ rd_n h0 h rd nt op N ∧ md_rows h0 h md rw it n vs ∧ md_B h it M rc rs bc bs ∧ xb_i h nt = ν ∧
  (xb_r h md 14 = some im ∧ xb_k h im = 102 ∧ xb_n h im = 4 ∧ xb_k h0 im = 0 ∧ xb_i h im = iv) ∧ (xb_i h cd = cb ∧ xb_k h0 cd = 0) ∧ (im ≠ nt ∧ im ≠ op ∧ im ≠ rd ∧ cd ≠ nt ∧ cd ≠ op ∧ cd ≠ rd) ∧
  ((xb_i h md 16).toInt = -1 → (xb_i h md 15).toInt = -1) ∧ xb_r h md 0 = some cd ∧ xb_r h md 1 = some nt
theorem md_rows.Ia {h0 h : xb_H} {md a : Nat} {rw it n : Nat → Nat} {vs : Nat → Nat → Int64} {f : Nat → Int32} (hR : md_rows h0 h md rw it n vs) (ha : xb_k h a ≠ 2) : md_rows h0 (xb_Ia h a f) md rw it n vs := by
  obtain ⟨r1, r2, r3⟩ := hR
  refine ⟨fun k hk => ?_, r2, r3⟩
  obtain ⟨a1, ⟨b1, b2, b3, b4, b5, b6, b7, b8⟩, a3, a4, a5⟩ := r1 k hk
  have hne : rw k ≠ a := fun e => ha (e ▸ b1)
  exact ⟨a1, ⟨b1, by rw [xh_iIa, if_neg hne]; exact b2, by rw [xh_iIa, if_neg hne]; exact b3, b4, b5, b6, b7, b8⟩, a3, a4, a5⟩
theorem md_rows.I {h0 h : xb_H} {md a k : Nat} {x : Int32} {rw it n : Nat → Nat} {vs : Nat → Nat → Int64} (hR : md_rows h0 h md rw it n vs) (ha : xb_k h a ≠ 2) : md_rows h0 (xb_I h a k x) md rw it n vs := hR.Ia ha
section RDG
variable {h0 h : xb_H} {rd op md cd nt im N M rc rs : Nat} {rw : Nat → Nat} {cb : Nat → Int32} {it n : Nat → Nat} {vs : Nat → Nat → Int64} {ν iv : Nat → Int32} {a : Nat} {l : Int} {bc bs : Nat}
theorem rd_G.at (hG : rd_G h0 h rd op md cd nt im N M rc rs rw cb it n vs ν iv a l bc bs) {v : Int32} {q : Nat} (h1 : v.toInt = q) (h2 : (q : Int) ≤ l) : rd_G h0 (xb_I h rd 3 v) rd op md cd nt im N M rc rs rw cb it n vs ν iv q l bc bs := by
  obtain ⟨g1, g2, g3, g4, g5, g6, ⟨i1, i2, i3, i4, i5⟩, ⟨c1, c2⟩, ⟨d1, d2, d3, d4, d5, d6⟩, u0, u1⟩ := hG
  have hs := g2.at (v := v) (by omega) (by omega)
  rw [h1] at hs
  have hnr : nt ≠ rd := fun e => g3.2.2.2.2.2.2.2.1 e.symm
  exact ⟨g1.I (.inl rfl), hs, g3, g4.I (by rw [g2.1]; omega), g5, by rw [xh_iI, if_neg hnr]; exact g6, ⟨i1, i2, i3, i4, by rw [xh_iI, if_neg d3]; exact i5⟩, ⟨by rw [xh_iI, if_neg d6]; exact c1, c2⟩, ⟨d1, d2, d3, d4, d5, d6⟩, by rw [xh_iI, if_neg g1.rd]; exact u0, u1⟩
theorem rd_G.lim (hG : rd_G h0 h rd op md cd nt im N M rc rs rw cb it n vs ν iv a l bc bs) {v : Int32} (h1 : (a : Int) ≤ v.toInt) (h2 : v.toInt ≤ N) : rd_G h0 (xb_I h rd 4 v) rd op md cd nt im N M rc rs rw cb it n vs ν iv a v.toInt bc bs := by
  obtain ⟨g1, g2, g3, g4, g5, g6, ⟨i1, i2, i3, i4, i5⟩, ⟨c1, c2⟩, ⟨d1, d2, d3, d4, d5, d6⟩, u0, u1⟩ := hG
  have hs := g2.lim (v := v) h1 h2
  have hnr : nt ≠ rd := fun e => g3.2.2.2.2.2.2.2.1 e.symm
  exact ⟨g1.I (.inl rfl), hs, g3, g4.I (by rw [g2.1]; omega), g5, by rw [xh_iI, if_neg hnr]; exact g6, ⟨i1, i2, i3, i4, by rw [xh_iI, if_neg d3]; exact i5⟩, ⟨by rw [xh_iI, if_neg d6]; exact c1, c2⟩, ⟨d1, d2, d3, d4, d5, d6⟩, by rw [xh_iI, if_neg g1.rd]; exact u0, u1⟩
theorem rd_G.mdI (hG : rd_G h0 h rd op md cd nt im N M rc rs rw cb it n vs ν iv a l bc bs) {k : Nat} {v : Int32} (hu : (va_up (xb_i h md) k v 16).toInt = -1 → (va_up (xb_i h md) k v 15).toInt = -1) : rd_G h0 (xb_I h md k v) rd op md cd nt im N M rc rs rw cb it n vs ν iv a l bc bs := by
  obtain ⟨g1, g2, g3, g4, g5, g6, ⟨i1, i2, i3, i4, i5⟩, ⟨c1, c2⟩, ⟨d1, d2, d3, d4, d5, d6⟩, u0, u1⟩ := hG
  have hm := g1.2.2.2.1
  have hnr : nt ≠ md := fun e => by rw [← e, g3.2.1] at hm; cases hm
  have him : im ≠ md := fun e => by rw [← e, i2] at hm; cases hm
  have hcm : cd ≠ md := fun e => by rw [← e, g2.2.2.2.2.1] at hm; cases hm
  have hrm : rd ≠ md := fun e => g1.rd e.symm
  obtain ⟨k1, k2, k3, k4, k5, k6, k7, k8, k9, k10, k11, k12⟩ := g2
  exact ⟨g1.I (.inr (.inr g1.2.2.2.2.2.2.2)), ⟨k1, k2, k3, k4, k5, k6, by rw [xh_iI, if_neg hrm]; exact k7, by rw [xh_iI, if_neg hrm]; exact k8, k9, k10, k11, k12⟩, g3, g4.I (by rw [hm]; omega), g5, by rw [xh_iI, if_neg hnr]; exact g6, ⟨i1, i2, i3, i4, by rw [xh_iI, if_neg him]; exact i5⟩, ⟨by rw [xh_iI, if_neg hcm]; exact c1, c2⟩, ⟨d1, d2, d3, d4, d5, d6⟩, by rw [xh_iI, if_pos rfl]; exact hu, u1⟩
theorem rd_G.imI (hG : rd_G h0 h rd op md cd nt im N M rc rs rw cb it n vs ν iv a l bc bs) {k : Nat} {v : Int32} : rd_G h0 (xb_I h im k v) rd op md cd nt im N M rc rs rw cb it n vs ν (va_up iv k v) a l bc bs := by
  obtain ⟨g1, g2, g3, g4, g5, g6, ⟨i1, i2, i3, i4, i5⟩, ⟨c1, c2⟩, ⟨d1, d2, d3, d4, d5, d6⟩, u0, u1⟩ := hG
  have hci : cd ≠ im := fun e => by have := g2.2.2.2.2.1; rw [e, i2] at this; cases this
  obtain ⟨k1, k2, k3, k4, k5, k6, k7, k8, k9, k10, k11, k12⟩ := g2
  have him : md ≠ im := fun e => by have := g1.2.2.2.1; rw [e, i2] at this; cases this
  exact ⟨g1.I (.inr (.inr i4)), ⟨k1, k2, k3, k4, k5, k6, by rw [xh_iI, if_neg d3.symm]; exact k7, by rw [xh_iI, if_neg d3.symm]; exact k8, k9, k10, k11, k12⟩, g3, g4.I (by rw [i2]; omega), g5, by rw [xh_iI, if_neg d1.symm]; exact g6, ⟨i1, i2, i3, i4, by rw [xh_iI, if_pos rfl, i5]⟩, ⟨by rw [xh_iI, if_neg hci]; exact c1, c2⟩, ⟨d1, d2, d3, d4, d5, d6⟩, by rw [xh_iI, if_neg him]; exact u0, u1⟩
theorem rd_G.E (hG : rd_G h0 h rd op md cd nt im N M rc rs rw cb it n vs ν iv a l bc bs) {v : Int32} {ν' f' : Nat → Int32} {q : Nat} (h1 : v.toInt = q) (h2 : (q : Int) ≤ l) : rd_G h0 (rd_E h rd nt op v ν' f') rd op md cd nt im N M rc rs rw cb it n vs ν' iv q l bc bs := by
  obtain ⟨g1, g2, g3, g4, g5, g6, ⟨i1, i2, i3, i4, i5⟩, ⟨c1, c2⟩, ⟨d1, d2, d3, d4, d5, d6⟩, u0, u1⟩ := hG
  have hs := g2.E (v := v) (ν := ν') (f := f') g3 (by omega) (by omega)
  rw [h1] at hs
  have hnm : md ≠ nt := fun e => by have := g1.2.2.2.1; rw [e, g3.2.1] at this; cases this
  have hom : md ≠ op := fun e => by have := g1.2.2.2.1; rw [e, g3.2.2.2.2.1] at this; cases this
  exact ⟨g1.E g3, hs, g3, ((g4.I (a := rd) (by rw [g2.1]; omega)).Ia (a := nt) (by show xb_k h nt ≠ 2; rw [g3.2.1]; omega)).Ia (a := op) (by show xb_k h op ≠ 2; rw [g3.2.2.2.2.1]; omega), g5, rdE_int g3.2.2.2.2.2.2.2.2.2, ⟨i1, i2, i3, i4, by rw [rdE_io d3 d1 d2]; exact i5⟩, ⟨by rw [rdE_io d6 d4 d5]; exact c1, c2⟩, ⟨d1, d2, d3, d4, d5, d6⟩, by rw [rdE_io g1.rd hnm hom]; exact u0, u1⟩
theorem rd_G.add (hG : rd_G h0 h rd op md cd nt im N M rc rs rw cb it n vs ν iv a l bc bs) {k : Nat} {x : Int64} {Qr : xb_H → Nat → Nat → Prop} (hk : k < 12) (hn : n k < M) (hM : M ≤ 1000000)
    (hQ : ∀ (h' : xb_H) (it' : Nat → Nat) (bc' bs' : Nat), rd_G h0 h' rd op md cd nt im N M rc rs rw cb it' (va_up n k (n k + 1)) (va_up vs k (va_up (vs k) (n k) x)) ν iv a l bc' bs' → Qr h' bc' bs') : w_Row_add (rw k) x h bc bs Qr := by
  obtain ⟨g1, g2, g3, g4, g5, g6, ⟨i1, i2, i3, i4, i5⟩, ⟨c1, c2⟩, d, u0, u1, u2⟩ := hG
  obtain ⟨k1, k2, k3, k4, k5, k6, k7, k8, k9, k10, k11, k12⟩ := g2
  obtain ⟨n1, n2, n3, n4, n5, n6, n7, n8⟩ := g3
  refine sp_md_add g1 g4 g5 hk hn hM (fun h' it' bc' bs' f1 f2 f3 f4 => hQ h' it' bc' bs' ?_)
  obtain ⟨f5, f6⟩ := f4
  have s1 := f6 rd (by omega) (by omega) (by omega)
  have s2 := f6 nt (by omega) (by omega) (by omega)
  have s3 := f6 im (by omega) (by omega) (by omega)
  have s4 := f6 cd (by omega) (by omega) (by omega)
  have s5 := f6 md (by omega) (by omega) (by omega)
  refine ⟨f1, ⟨f5.k (c := 3) k1, by rw [s1.2.2]; exact k2, f5.k (c := 2) k3, by rw [s1.2.2]; exact k4, f5.k (c := 99) k5, by rw [f5.n (c := 99) k5]; exact k6, by rw [s1.1]; exact k7, by rw [s1.1]; exact k8, k9, k10, k11, k12⟩, ⟨by rw [s1.2.2]; exact n1, f5.k (c := 101) n2, by rw [f5.n (c := 101) n2]; exact n3, by rw [s1.2.2]; exact n4, f5.k (c := 101) n5, by rw [f5.n (c := 101) n5]; exact n6, n7, n8⟩, f2, f3, by rw [s2.1]; exact g6, ⟨by rw [s5.2.2]; exact i1, f5.k (c := 101) i2, by rw [f5.n (c := 101) i2]; exact i3, i4, by rw [s3.1]; exact i5⟩, ⟨by rw [s4.1]; exact c1, c2⟩, d, by rw [s5.1]; exact u0, by rw [s5.2.2]; exact u1, by rw [s5.2.2]; exact u2⟩
theorem rd_G.X (hG : rd_G h0 h rd op md cd nt im N M rc rs rw cb it n vs ν iv a l bc bs) : rd_X h0 h rd op md := hG.1
theorem rd_G.s (hG : rd_G h0 h rd op md cd nt im N M rc rs rw cb it n vs ν iv a l bc bs) : rd_s h rd md cd N a l := hG.2.1
theorem rd_G.krd (hG : rd_G h0 h rd op md cd nt im N M rc rs rw cb it n vs ν iv a l bc bs) : xb_k h rd = 4 := hG.2.1.1
theorem rd_G.rmd (hG : rd_G h0 h rd op md cd nt im N M rc rs rw cb it n vs ν iv a l bc bs) : xb_r h rd 0 = some md := hG.2.1.2.1
theorem rd_G.kmd (hG : rd_G h0 h rd op md cd nt im N M rc rs rw cb it n vs ν iv a l bc bs) : xb_k h md = 3 := hG.2.1.2.2.1
theorem rd_G.iat (hG : rd_G h0 h rd op md cd nt im N M rc rs rw cb it n vs ν iv a l bc bs) : (xb_i h rd 3).toInt = a := hG.2.1.2.2.2.2.2.2.1
theorem rd_G.ilim (hG : rd_G h0 h rd op md cd nt im N M rc rs rw cb it n vs ν iv a l bc bs) : (xb_i h rd 4).toInt = l := hG.2.1.2.2.2.2.2.2.2.1
theorem rd_G.al (hG : rd_G h0 h rd op md cd nt im N M rc rs rw cb it n vs ν iv a l bc bs) : (a : Int) ≤ l ∧ l ≤ N ∧ N ≤ 65536 := ⟨hG.2.1.2.2.2.2.2.2.2.2.2.1, hG.2.1.2.2.2.2.2.2.2.2.2.2.1, hG.2.1.2.2.2.2.2.2.2.2.2.2.2⟩
theorem rd_G.c (hG : rd_G h0 h rd op md cd nt im N M rc rs rw cb it n vs ν iv a l bc bs) : rc + 1 ≤ bc := hG.2.2.2.2.1.c
theorem rd_G.b (hG : rd_G h0 h rd op md cd nt im N M rc rs rw cb it n vs ν iv a l bc bs) : rs + 6 ≤ bs := hG.2.2.2.2.1.s
theorem rd_G.row (hG : rd_G h0 h rd op md cd nt im N M rc rs rw cb it n vs ν iv a l bc bs) {k : Nat} (hk : k < 12) : xb_r h md (k + 2) = some (rw k) := (hG.2.2.2.1.1 k hk).1
theorem rd_G.krow (hG : rd_G h0 h rd op md cd nt im N M rc rs rw cb it n vs ν iv a l bc bs) {k : Nat} (hk : k < 12) : xb_k h (rw k) = 2 := (hG.2.2.2.1.1 k hk).2.1.1
theorem rd_G.rowOk (hG : rd_G h0 h rd op md cd nt im N M rc rs rw cb it n vs ν iv a l bc bs) {k : Nat} (hk : k < 12) : xr_row h (rw k) (xr_c k) (n k) (it k) := (hG.2.2.2.1.1 k hk).2.1
theorem rd_G.cdr (hG : rd_G h0 h rd op md cd nt im N M rc rs rw cb it n vs ν iv a l bc bs) : xb_r h rd 1 = some cd ∧ xb_k h cd = 100 ∧ xb_n h cd = N := ⟨hG.2.1.2.2.2.1, hG.2.1.2.2.2.2.1, hG.2.1.2.2.2.2.2.1⟩
theorem rd_G.icd (hG : rd_G h0 h rd op md cd nt im N M rc rs rw cb it n vs ν iv a l bc bs) : xb_i h cd = cb := hG.2.2.2.2.2.2.2.1.1
end RDG
/-- lines of c numbers, each as P says -/
def xr_L (c : Nat) (P : Nat → (Nat → Int) → Prop) (n : Nat) (v : Nat → Int64) : Prop := ∃ m, n = c * m ∧ ∀ i, i < m → P i (fun j => (v (c * i + j)).toInt)
/-- what was added to the row k, in order -/
def xr_A (k : Nat) (n : Nat → Nat) (vs : Nat → Nat → Int64) (n' : Nat → Nat) (vs' : Nat → Nat → Int64) (L : List Int64) : Prop :=
  n' k = n k + L.length ∧ (∀ j, j ≠ k → n' j = n j ∧ vs' j = vs j) ∧ (∀ i, i < n k → vs' k i = vs k i) ∧ ∀ i, i < L.length → vs' k (n k + i) = L.getD i 0
theorem xr_A.rf (k : Nat) (n : Nat → Nat) (vs : Nat → Nat → Int64) : xr_A k n vs n vs [] := ⟨rfl, fun _ _ => ⟨rfl, rfl⟩, fun _ _ => rfl, fun i hi => absurd hi (Nat.not_lt_zero i)⟩
theorem xr_A.sn {k : Nat} {n n' : Nat → Nat} {vs vs' : Nat → Nat → Int64} {L : List Int64} (h : xr_A k n vs n' vs' L) (x : Int64) : xr_A k n vs (va_up n' k (n' k + 1)) (va_up vs' k (va_up (vs' k) (n' k) x)) (L ++ [x]) := by
  obtain ⟨h1, h2, h3, h4⟩ := h
  refine ⟨by rw [xh_up, if_pos rfl, h1, List.length_append]; rfl, fun j hj => by rw [xh_up, if_neg hj, xh_up, if_neg hj]; exact h2 j hj, fun i hi => ?_, fun i hi => ?_⟩
  · rw [xh_up, if_pos rfl, xh_up, if_neg (by omega)]
    exact h3 i hi
  · rw [List.length_append] at hi
    simp only [List.length_singleton] at hi
    rw [xh_up, if_pos rfl, xh_up]
    by_cases e : i = L.length
    · rw [if_pos (by omega), e]
      simp [List.getD]
    · rw [if_neg (by omega), h4 i (by omega)]
      simp only [List.getD]
      rw [List.getElem?_append_left (by omega)]
theorem xr_L.app {c k : Nat} {P : Nat → (Nat → Int) → Prop} {n n' : Nat → Nat} {vs vs' : Nat → Nat → Int64} {L : List Int64} (h0 : 0 < c) (hL : xr_L c P (n k) (vs k)) (hA : xr_A k n vs n' vs' L) (hc : L.length = c) (hp : ∀ i w w', (∀ j, j < c → w j = w' j) → P i w → P i w') (hP : P (n k / c) (fun j => (L.getD j 0).toInt)) : xr_L c P (n' k) (vs' k) := by
  obtain ⟨m, h1, h2⟩ := hL
  obtain ⟨a1, a2, a3, a4⟩ := hA
  refine ⟨m + 1, by rw [a1, hc, h1, Nat.mul_succ], fun i hi => ?_⟩
  by_cases e : i = m
  · subst e
    rw [h1, Nat.mul_div_cancel_left i h0] at hP
    refine hp _ _ _ (fun j hj => ?_) hP
    rw [← h1, a4 j (by omega)]
  · refine hp _ _ _ (fun j hj => ?_) (h2 i (by omega))
    have : c * i + j < n k := by
      have h3 : c * (i + 1) ≤ c * m := Nat.mul_le_mul_left c (by omega)
      rw [Nat.mul_succ] at h3
      omega
    rw [a3 _ this]
theorem xr_L.mono {c : Nat} {P P' : Nat → (Nat → Int) → Prop} {n : Nat} {v v' : Nat → Int64} (hL : xr_L c P n v) (he : v' = v) (hP : ∀ i w, P i w → P' i w) : xr_L c P' n v' := by
  obtain ⟨m, h1, h2⟩ := hL
  exact ⟨m, h1, fun i hi => by rw [he]; exact hP i _ (h2 i hi)⟩
/-- a line of a row -/
theorem xr_L.at {c : Nat} {P : Nat → (Nat → Int) → Prop} {m : Nat} {v : Nat → Int64} (hL : xr_L c P m v) (h0 : 0 < c) {i : Nat} (hi : i < m / c) : P i (fun j => (v (c * i + j)).toInt) ∧ c * i + c ≤ m := by
  obtain ⟨t, e1, e2⟩ := hL
  rw [e1, Nat.mul_div_cancel_left t h0] at hi
  refine ⟨e2 i hi, ?_⟩
  have h3 : c * (i + 1) ≤ c * t := Nat.mul_le_mul_left c (by omega)
  rw [Nat.mul_succ] at h3
  omega
