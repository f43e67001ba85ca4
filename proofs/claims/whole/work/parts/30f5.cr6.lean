-- equality: the class's reader over its whole state, exact
/-- the class's bytes cb are those of cA from b on -/
def cx_ (cA cb : Nat → Int32) (b N : Nat) : Prop := (∀ j, j < N → cb j = cA (b + j)) ∧ (∀ j, -128 ≤ (cA j).toInt ∧ (cA j).toInt ≤ 127) ∧ ∀ j, -128 ≤ (cb j).toInt ∧ (cb j).toInt ≤ 127
/-- lines of rows: of what is written at p -/
def ep0 (cA : Nat → Int32) (b p : Nat) (w : Nat → Int) : Prop := w 0 + b = p ∧ w 1 + b = cE cA (p + 1) ∧ w 2 = cV cA (p + 1) ∧ w 3 = cV cA (cE cA (p + 1) + cV cA (p + 1)) ∧ w 4 = (if cV cA (cE cA (p + 1) + cV cA (p + 1)) = 0 then 64 else (ub cA (cE cA (cE cA (p + 1) + cV cA (p + 1)))).toInt)
/-- limits at lp -/
def epL (cA : Nat → Int32) (b p lp : Nat) (w : Nat → Int) : Prop := w 0 + b = p ∧ w 1 = cV cA (lp + 1) ∧ w 2 = (if ub cA lp = 1 then (cV cA (cE cA (lp + 1)) : Int) else -1)
def ep6 (cA : Nat → Int32) (b p : Nat) (w : Nat → Int) : Prop := w 0 + b = p ∧ w 1 = (ub cA (qN cA p)).toInt ∧ w 2 = cV cA (qN cA p + 1) ∧ w 3 + b = cE cA p ∧ w 4 = cV cA p
/-- the reader's state, and the module's own numbers -/
def rdg (ω : Nat → Int32) (h0 h : xb_H) (rd op md cd nt im N M rc rs : Nat) (rw : Nat → Nat) (cb : Nat → Int32) (it n : Nat → Nat) (vs : Nat → Nat → Int64) (ν iv : Nat → Int32) (a : Nat) (l : Int) (bc bs : Nat) : Prop := rd_G h0 h rd op md cd nt im N M rc rs rw cb it n vs ν iv a l bc bs ∧ xb_i h md = ω
section RDg
variable {ω : Nat → Int32} {h0 h : xb_H} {rd op md cd nt im N M rc rs : Nat} {rw : Nat → Nat} {cb : Nat → Int32} {it n n1 : Nat → Nat} {vs vs1 : Nat → Nat → Int64} {ν iv : Nat → Int32} {a : Nat} {l : Int} {bc bs : Nat}
theorem rdg.X (hG : rdg ω h0 h rd op md cd nt im N M rc rs rw cb it n vs ν iv a l bc bs) : rd_X h0 h rd op md := hG.1.X
theorem rdg.s (hG : rdg ω h0 h rd op md cd nt im N M rc rs rw cb it n vs ν iv a l bc bs) : rd_s h rd md cd N a l := hG.1.s
theorem rdg.krd (hG : rdg ω h0 h rd op md cd nt im N M rc rs rw cb it n vs ν iv a l bc bs) : xb_k h rd = 4 := hG.1.krd
theorem rdg.rmd (hG : rdg ω h0 h rd op md cd nt im N M rc rs rw cb it n vs ν iv a l bc bs) : xb_r h rd 0 = some md := hG.1.rmd
theorem rdg.kmd (hG : rdg ω h0 h rd op md cd nt im N M rc rs rw cb it n vs ν iv a l bc bs) : xb_k h md = 3 := hG.1.kmd
theorem rdg.iat (hG : rdg ω h0 h rd op md cd nt im N M rc rs rw cb it n vs ν iv a l bc bs) : (xb_i h rd 3).toInt = a := hG.1.iat
theorem rdg.ilim (hG : rdg ω h0 h rd op md cd nt im N M rc rs rw cb it n vs ν iv a l bc bs) : (xb_i h rd 4).toInt = l := hG.1.ilim
theorem rdg.al (hG : rdg ω h0 h rd op md cd nt im N M rc rs rw cb it n vs ν iv a l bc bs) : (a : Int) ≤ l ∧ l ≤ N ∧ N ≤ 65536 := hG.1.al
theorem rdg.c (hG : rdg ω h0 h rd op md cd nt im N M rc rs rw cb it n vs ν iv a l bc bs) : rc + 1 ≤ bc := hG.1.c
theorem rdg.b (hG : rdg ω h0 h rd op md cd nt im N M rc rs rw cb it n vs ν iv a l bc bs) : rs + 6 ≤ bs := hG.1.b
theorem rdg.cdr (hG : rdg ω h0 h rd op md cd nt im N M rc rs rw cb it n vs ν iv a l bc bs) : xb_r h rd 1 = some cd ∧ xb_k h cd = 100 ∧ xb_n h cd = N := hG.1.cdr
theorem rdg.icd (hG : rdg ω h0 h rd op md cd nt im N M rc rs rw cb it n vs ν iv a l bc bs) : xb_i h cd = cb := hG.1.icd
theorem rdg.row (hG : rdg ω h0 h rd op md cd nt im N M rc rs rw cb it n vs ν iv a l bc bs) {k : Nat} (hk : k < 12) : xb_r h md (k + 2) = some (rw k) := hG.1.row hk
theorem rdg.krow (hG : rdg ω h0 h rd op md cd nt im N M rc rs rw cb it n vs ν iv a l bc bs) {k : Nat} (hk : k < 12) : xb_k h (rw k) = 2 := hG.1.krow hk
theorem rdg.rowOk (hG : rdg ω h0 h rd op md cd nt im N M rc rs rw cb it n vs ν iv a l bc bs) {k : Nat} (hk : k < 12) : xr_row h (rw k) (xr_c k) (n k) (it k) := hG.1.rowOk hk
theorem rdg.at (hG : rdg ω h0 h rd op md cd nt im N M rc rs rw cb it n vs ν iv a l bc bs) {v : Int32} {q : Nat} (h1 : v.toInt = q) (h2 : (q : Int) ≤ l) : rdg ω h0 (xb_I h rd 3 v) rd op md cd nt im N M rc rs rw cb it n vs ν iv q l bc bs := ⟨hG.1.at h1 h2, by rw [xh_iI, if_neg hG.X.rd]; exact hG.2⟩
theorem rdg.lim (hG : rdg ω h0 h rd op md cd nt im N M rc rs rw cb it n vs ν iv a l bc bs) {v : Int32} (h1 : (a : Int) ≤ v.toInt) (h2 : v.toInt ≤ N) : rdg ω h0 (xb_I h rd 4 v) rd op md cd nt im N M rc rs rw cb it n vs ν iv a v.toInt bc bs := ⟨hG.1.lim h1 h2, by rw [xh_iI, if_neg hG.X.rd]; exact hG.2⟩
theorem rdg.mdI (hG : rdg ω h0 h rd op md cd nt im N M rc rs rw cb it n vs ν iv a l bc bs) {k : Nat} {v : Int32} (hu : (va_up ω k v 16).toInt = -1 → (va_up ω k v 15).toInt = -1) : rdg (va_up ω k v) h0 (xb_I h md k v) rd op md cd nt im N M rc rs rw cb it n vs ν iv a l bc bs := ⟨hG.1.mdI (by rw [hG.2]; exact hu), by rw [xh_iI, if_pos rfl, hG.2]⟩
theorem rdg.imI (hG : rdg ω h0 h rd op md cd nt im N M rc rs rw cb it n vs ν iv a l bc bs) {k : Nat} {v : Int32} : rdg ω h0 (xb_I h im k v) rd op md cd nt im N M rc rs rw cb it n vs ν (va_up iv k v) a l bc bs := ⟨hG.1.imI, by
  have i2 := hG.1.2.2.2.2.2.2.1.2.1
  have him : md ≠ im := fun e => by have := hG.1.1.2.2.2.1; rw [e, i2] at this; cases this
  rw [xh_iI, if_neg him]
  exact hG.2⟩
theorem rdg.E (hG : rdg ω h0 h rd op md cd nt im N M rc rs rw cb it n vs ν iv a l bc bs) {v : Int32} {ν' f' : Nat → Int32} {q : Nat} (h1 : v.toInt = q) (h2 : (q : Int) ≤ l) : rdg ω h0 (rd_E h rd nt op v ν' f') rd op md cd nt im N M rc rs rw cb it n vs ν' iv q l bc bs := ⟨hG.1.E h1 h2, by
  have g1 := hG.1.1
  have g3 := hG.1.2.2.1
  have hnm : md ≠ nt := fun e => by have := g1.2.2.2.1; rw [e, g3.2.1] at this; cases this
  have hom : md ≠ op := fun e => by have := g1.2.2.2.1; rw [e, g3.2.2.2.2.1] at this; cases this
  rw [rdE_io g1.rd hnm hom]
  exact hG.2⟩
theorem rdg.add (hG : rdg ω h0 h rd op md cd nt im N M rc rs rw cb it n vs ν iv a l bc bs) {k : Nat} {x : Int64} {Qr : xb_H → Nat → Nat → Prop} (hk : k < 12) (hn : n k < M) (hM : M ≤ 1000000)
    (hQ : ∀ (h' : xb_H) (it' : Nat → Nat) (bc' bs' : Nat), rdg ω h0 h' rd op md cd nt im N M rc rs rw cb it' (va_up n k (n k + 1)) (va_up vs k (va_up (vs k) (n k) x)) ν iv a l bc' bs' → Qr h' bc' bs') : w_Row_add (rw k) x h bc bs Qr := by
  obtain ⟨⟨g1, g2, g3, g4, g5, g6, ⟨i1, i2, i3, i4, i5⟩, ⟨c1, c2⟩, d, u0, u1, u2⟩, hω⟩ := hG
  obtain ⟨k1, k2, k3, k4, k5, k6, k7, k8, k9, k10, k11, k12⟩ := g2
  obtain ⟨n1, n2, n3, n4, n5, n6, n7, n8⟩ := g3
  refine sp_md_add g1 g4 g5 hk hn hM (fun h' it' bc' bs' f1 f2 f3 f4 => hQ h' it' bc' bs' ?_)
  obtain ⟨f5, f6⟩ := f4
  have s1 := f6 rd (by omega) (by omega) (by omega)
  have s2 := f6 nt (by omega) (by omega) (by omega)
  have s3 := f6 im (by omega) (by omega) (by omega)
  have s4 := f6 cd (by omega) (by omega) (by omega)
  have s5 := f6 md (by omega) (by omega) (by omega)
  refine ⟨⟨f1, ⟨f5.k (c := 3) k1, by rw [s1.2.2]; exact k2, f5.k (c := 2) k3, by rw [s1.2.2]; exact k4, f5.k (c := 99) k5, by rw [f5.n (c := 99) k5]; exact k6, by rw [s1.1]; exact k7, by rw [s1.1]; exact k8, k9, k10, k11, k12⟩, ⟨by rw [s1.2.2]; exact n1, f5.k (c := 101) n2, by rw [f5.n (c := 101) n2]; exact n3, by rw [s1.2.2]; exact n4, f5.k (c := 101) n5, by rw [f5.n (c := 101) n5]; exact n6, n7, n8⟩, f2, f3, by rw [s2.1]; exact g6, ⟨by rw [s5.2.2]; exact i1, f5.k (c := 101) i2, by rw [f5.n (c := 101) i2]; exact i3, i4, by rw [s3.1]; exact i5⟩, ⟨by rw [s4.1]; exact c1, c2⟩, d, by rw [s5.1]; exact u0, by rw [s5.2.2]; exact u1, by rw [s5.2.2]; exact u2⟩, by rw [s5.1]; exact hω⟩
theorem rdg.addA (hG : rdg ω h0 h rd op md cd nt im N M rc rs rw cb it n1 vs1 ν iv a l bc bs) {k : Nat} {x : Int64} {L : List Int64} {Qr : xb_H → Nat → Nat → Prop} (hk : k < 12) (hA : xr_A k n vs n1 vs1 L) (hn : n k + L.length < M) (hM : M ≤ 1000000)
    (hQ : ∀ (h' : xb_H) (it' n2 : Nat → Nat) (vs2 : Nat → Nat → Int64) (bc' bs' : Nat), rdg ω h0 h' rd op md cd nt im N M rc rs rw cb it' n2 vs2 ν iv a l bc' bs' → xr_A k n vs n2 vs2 (L ++ [x]) → Qr h' bc' bs') : w_Row_add (rw k) x h bc bs Qr :=
  hG.add hk (by rw [hA.1]; exact hn) hM (fun h' it' bc' bs' g => hQ h' it' _ _ bc' bs' g (hA.sn x))
end RDg
section CR6
variable {α : Type} {h0 h : xb_H} {ω : Nat → Int32} {rd op md cd nt im N M rc rs b e : Nat} {rw : Nat → Nat} {cb cA : Nat → Int32} {it n n1 : Nat → Nat} {vs vs1 : Nat → Nat → Int64} {ν iv : Nat → Int32} {a : Nat} {l : Int} {bc bs : Nat} {Qt : String → xb_H → Nat → Nat → Prop} {R : Except (Nat × Nat) α} {K : Nat → Except (Nat × Nat) α}
theorem rdg.q (hG : rdg ω h0 h rd op md cd nt im N M rc rs rw cb it n vs ν iv a l bc bs) (hA : cx_ cA cb b N) (he : l + b = e) : rq h rd md cd N b (b + a) e cA := by
  have hal := hG.al
  refine ⟨by omega, by omega, ?_, hG.1.2.2.2.2.2.2.2.2.1.2.2.2.2.2, fun j hj => by rw [hG.icd]; exact hA.1 j hj⟩
  have := hG.s
  rw [show ((b + a - b : Nat) : Int) = a by omega, show ((e - b : Nat) : Int) = l by omega]
  exact this
theorem u64 {u : Int32} {n : Nat} (h : u.toBitVec.toNat = n) : (Int32.toInt64 u &&& 4294967295).toInt = n := by
  have := z_nat u
  rw [Z_low, Z_of32]
  omega
theorem gy_count {Qr : Int32 → xb_H → Nat → Nat → Prop} (hT : rdT h0 rd op md rc rs b R Qt) (hG : rdg ω h0 h rd op md cd nt im N M rc rs rw cb it n vs ν iv a l bc bs) (hA : cx_ cA cb b N) (he : l + b = e) (hR : R = (pCx cA e (b + a)).bind K)
    (hQ : ∀ (u : Int32) (h' : xb_H) (q : Nat), a < q → (q : Int) ≤ l → cE cA (b + a) = b + q → u.toBitVec.toNat = cV cA (b + a) → (∃ x, rC cA (b + a) = some (b + q, x)) → R = K (b + q) → rdg ω h0 h' rd op md cd nt im N M rc rs rw cb it n vs ν iv q l bc bs → Qr u h' bc bs) : w_Reader_count rd h bc bs Qr Qt :=
  y_count hT hG.X (hG.q hA he) hG.c hG.b hR (fun u v q x g1 g2 g3 g4 g5 g6 => hQ u _ (q - b) (by omega) (by omega) (by rw [(rC_E g1).1]; omega) g4 ⟨x, by rw [show b + (q - b) = q by omega]; exact g1⟩ (by rw [show b + (q - b) = q by omega]; exact g6) (hG.at (by omega) (by omega)))
theorem gy_byteUpTo {x : Int32} {Qr : Int32 → xb_H → Nat → Nat → Prop} (hT : rdT h0 rd op md rc rs b R Qt) (hG : rdg ω h0 h rd op md cd nt im N M rc rs rw cb it n vs ν iv a l bc bs) (hA : cx_ cA cb b N) (he : l + b = e) (hR : R = (pW cA e 0 x (b + a)).bind K)
    (hQ : ∀ (h' : xb_H), ub cA (b + a) ≤ x → (a : Int) + 1 ≤ l → R = K (b + (a + 1)) → rdg ω h0 h' rd op md cd nt im N M rc rs rw cb it n vs ν iv (a + 1) l bc bs → Qr (ub cA (b + a)) h' bc bs) : w_Reader_byteUpTo rd x h bc bs Qr Qt :=
  y_byteUpTo hT hG.X (hG.q hA he) hG.c hG.b hR (fun v g1 g2 g3 g4 => hQ _ g3 (by omega) g4 (hG.at (by omega) (by omega)))
theorem gy_valueType {Qr : Int32 → xb_H → Nat → Nat → Prop} (hT : rdT h0 rd op md rc rs b R Qt) (hG : rdg ω h0 h rd op md cd nt im N M rc rs rw cb it n vs ν iv a l bc bs) (hA : cx_ cA cb b N) (he : l + b = e) (hR : R = (pVT cA e (b + a)).bind K)
    (hQ : ∀ (h' : xb_H), 124 ≤ (ub cA (b + a)).toInt → (ub cA (b + a)).toInt ≤ 127 → (ub cA (b + a)).toInt = (cb a).toInt → (a : Int) + 1 ≤ l → R = K (b + (a + 1)) → rdg ω h0 h' rd op md cd nt im N M rc rs rw cb it n vs ν iv (a + 1) l bc bs → Qr (ub cA (b + a)) h' bc bs) : w_Reader_valueType rd h bc bs Qr Qt := by
  have hal := hG.al
  refine y_valueType hT hG.X (hG.q hA he) hG.c hG.b hR (fun v g1 g2 g3 g4 g5 => hQ _ g3 g4 ?_ (by omega) g5 (hG.at (by omega) (by omega)))
  rw [ub_i, ← hA.1 a (by omega)] at g3 g4 ⊢
  have := hA.2.2 a
  omega
theorem gy_readMark {x : Int32} {Qr : xb_H → Nat → Nat → Prop} (hT : rdT h0 rd op md rc rs b R Qt) (hG : rdg ω h0 h rd op md cd nt im N M rc rs rw cb it n vs ν iv a l bc bs) (hA : cx_ cA cb b N) (he : l + b = e) (hx : 0 ≤ x.toInt ∧ x.toInt ≤ 127) (hR : R = (pW cA e x x (b + a)).bind K)
    (hQ : ∀ h' : xb_H, (a : Int) + 1 ≤ l → R = K (b + (a + 1)) → rdg ω h0 h' rd op md cd nt im N M rc rs rw cb it n vs ν iv (a + 1) l bc bs → Qr h' bc bs) : w_Reader_readMark rd x h bc bs Qr Qt :=
  y_readMark hT hG.X (hG.q hA he) hG.c hG.b hA.2.1 hx hR (fun v g1 g2 _ g4 => hQ _ (by omega) g4 (hG.at (by omega) (by omega)))
theorem gy_readName {Qr : Int32 → xb_H → Nat → Nat → Prop} (hT : rdT h0 rd op md rc rs b R Qt) (hG : rdg ω h0 h rd op md cd nt im N M rc rs rw cb it n vs ν iv a l bc bs) (hA : cx_ cA cb b N) (he : l + b = e) (hR : R = (pNm cA e (b + a)).bind K)
    (hQ : ∀ (u : Int32) (h' : xb_H) (q : Nat), u.toInt = cV cA (b + a) → a + u.toInt < q → (q : Int) ≤ l → qN cA (b + a) = b + q → cE cA (b + a) + cV cA (b + a) = b + q → R = K (b + q) → rdg ω h0 h' rd op md cd nt im N M rc rs rw cb it n vs ν iv q l bc bs → Qr u h' bc bs) : w_Reader_readName rd h bc bs Qr Qt :=
  y_readName hT hG.X (hG.q hA he) hG.c hG.b hR (fun u v g1 g2 g3 g4 g5 g6 => by
    have e1 : qN cA (b + a) = cE cA (b + a) + cV cA (b + a) := rfl
    exact hQ u _ (qN cA (b + a) - b) g4 (by omega) (by omega) (by omega) (by omega) (by rw [show b + (qN cA (b + a) - b) = qN cA (b + a) by omega]; exact g6) (hG.at (by omega) (by omega)))
theorem fRow_tk : ∀ {j m p : Nat}, (∀ i, i < j → p + i < e ∧ ¬ ub cA (p + i) < 124 ∧ ¬ 127 < ub cA (p + i)) → fRow cA e 1 (m + j) p = fRow cA e 1 m (p + j)
  | 0, m, p, _ => rfl
  | j + 1, m, p, h1 => by
    have h2 := h1 0 (by omega)
    rw [Nat.add_zero] at h2
    rw [show m + (j + 1) = (m + j) + 1 by omega, fRow_t (by decide) rfl h2.2 (by omega), show p + (j + 1) = p + 1 + j by omega]
    exact fRow_tk (fun i hi => by have := h1 (i + 1) (by omega); rw [show p + 1 + i = p + (i + 1) by omega]; exact this)
theorem vtR {p : Nat} (h1 : e ≤ p → R = .error (2, e)) (h2 : p < e → ¬ (¬ ub cA p < 124 ∧ ¬ 127 < ub cA p) → R = .error (5, p)) : R = (pVT cA e p).bind (fun _ => R) := by
  rcases Nat.lt_or_ge p e with h9 | h9
  · by_cases hx : ¬ ub cA p < 124 ∧ ¬ 127 < ub cA p
    · rw [pVT_s h9 hx]
      rfl
    · rw [pVT_5 h9 hx, h2 h9 hx]
      rfl
  · rw [pVT_2 h9, h1 h9]
    rfl
theorem pRw_n {x1 : Int32} {p : Nat} (h1 : ¬ ∃ q x, rC cA p = some (q, x) ∧ q ≤ e) : pRw cA e x1 p = .error (fC cA e p) := by
  unfold pRw
  rw [mkP_n, thC_n h1]
  rintro ⟨q, ⟨p1, L, a1, a2⟩, a3⟩
  have := rRow_b a2
  exact h1 ⟨p1, L, a1, by omega⟩
theorem pRw_m {x1 : Int32} {p p1 : Nat} {L : Int64} (h1 : rC cA p = some (p1, L)) (h2 : p1 ≤ e) (h3 : ¬ ∃ q, rRow cA x1 L.toInt.toNat p1 q ∧ q ≤ e) : pRw cA e x1 p = .error (fRow cA e x1 (e - p1 + 1) p1) := by
  unfold pRw
  rw [mkP_n, thC_s h1 h2]
  rintro ⟨q, ⟨p1', L', a1, a2⟩, a3⟩
  obtain ⟨e1, e2⟩ := rC_in h1 a1
  subst e1 e2
  exact h3 ⟨q, a2, a3⟩
theorem rRow_f {x1 : Int32} {k p q q' : Nat} (h1 : rRow cA x1 k p q) (h2 : rRow cA x1 k p q') : q = q' := by
  by_cases hx : x1 = 0
  · have := (h1.1 hx).symm.trans (h2.1 hx)
    simp only [Option.some.injEq] at this
    exact this
  · have := (h1.2 hx).1
    have := (h2.2 hx).1
    omega
theorem pRw_s {x1 : Int32} {p p1 q : Nat} {L : Int64} (h1 : rC cA p = some (p1, L)) (h2 : rRow cA x1 L.toInt.toNat p1 q) (h3 : q ≤ e) : pRw cA e x1 p = .ok q := by
  unfold pRw
  refine mkP_s ?_ ⟨p1, L, h1, h2⟩ h3
  rintro q q' ⟨p1, L, a1, a2⟩ ⟨p2, L2, b1, b2⟩
  obtain ⟨e1, e2⟩ := rC_in a1 b1
  subst e1 e2
  exact rRow_f a2 b2
theorem gy_readTypesL {Qr : Int32 → xb_H → Nat → Nat → Prop} (hT : rdT h0 rd op md rc rs b R Qt) (hA : cx_ cA cb b N) (he : l + b = e) {x1 L : Int64} {x3 : Int32} {f0 p : Nat} (hf : x3.toInt = f0) (hc : rC cA p = some (b + f0, L)) (hx : x1.toInt = (L.toInt.toNat : Nat)) (hR : R = (pRw cA e 1 p).bind K)
    (hQ : ∀ (u : Int32) (h' : xb_H) (q : Nat), u.toInt = (L.toInt.toNat : Nat) → f0 + L.toInt.toNat = q → (q : Int) ≤ l → (∀ j, f0 ≤ j → j < q → 124 ≤ (cb j).toInt ∧ (cb j).toInt ≤ 127) → R = K (b + q) → rdg ω h0 h' rd op md cd nt im N M rc rs rw cb it n vs ν iv q l bc bs → Qr u h' bc bs) :
    ∀ (m k : Nat) (x4 : Int64) (h : xb_H), x4.toInt = k → k ≤ L.toInt.toNat → rdg ω h0 h rd op md cd nt im N M rc rs rw cb it n vs ν iv (f0 + k) l bc bs → (∀ j, f0 ≤ j → j < f0 + k → 124 ≤ (cb j).toInt ∧ (cb j).toInt ≤ 127) → (∀ i, i < k → b + f0 + i < e ∧ ¬ ub cA (b + f0 + i) < 124 ∧ ¬ 127 < ub cA (b + f0 + i)) → l - (f0 + k) ≤ m → w_Reader_readTypes_L18 Qr Qt (m + 1) rd x1 x3 x4 h bc bs
  | m, k, x4, h, hk, hkL, hG, g2, g2', g3 => by
    have hl := hG.al
    have rb := rC_b hc
    have fl : ¬ (b + f0 + k < e ∧ ¬ ub cA (b + f0 + k) < 124 ∧ ¬ 127 < ub cA (b + f0 + k)) → k < L.toInt.toNat → R = .error (fVT e (b + f0 + k)) := fun h9 h8 => by
      rw [hR, pRw_m hc (by omega)]
      · rw [show e - (b + f0) + 1 = (e - (b + f0) - k + 1) + k by omega, fRow_tk g2', fRow_tn (by decide)]
        · rfl
        · rintro ⟨q, a1, a2⟩
          exact h9 ⟨by omega, a1.2⟩
      · rintro ⟨q, a1, a2⟩
        obtain ⟨a3, a4⟩ := a1.2 (by decide)
        exact h9 ⟨by omega, a4 _ (by omega) (by omega)⟩
    unfold w_Reader_readTypes_L18
    refine ⟨fun h9 => ⟨hG.krd, ?_⟩, fun h9 => ⟨hG.krd, ?_⟩⟩
    · rw [Z_le, hx, hk] at h9
      have ek : k = L.toInt.toNat := by omega
      refine hQ _ h (f0 + k) ?_ (by omega) hl.1 g2 ?_ hG
      · rw [z_sub, hG.iat, hf]
        omega
      · rw [hR, pRw_s (q := b + (f0 + k)) hc ⟨fun h8 => absurd h8 (by decide), fun _ => ⟨by omega, fun j j1 j2 => ?_⟩⟩ (by omega)]
        · rfl
        · have := g2' (j - (b + f0)) (by omega)
          rw [show b + f0 + (j - (b + f0)) = j by omega] at this
          exact this.2
    · rw [Z_le, hx, hk] at h9
      have hkl : k < L.toInt.toNat := by omega
      refine gy_valueType (K := fun _ => R) hT hG hA he ?_ (fun h' u1 u2 u3 u4 _ hG' _ v6 e6 => ?_)
      · rw [show b + (f0 + k) = b + f0 + k by omega]
        exact vtR (fun h8 => by rw [fl (by omega) hkl, fVT_2 h8]) (fun h8 h7 => by rw [fl (fun h6 => h7 h6.2) hkl, fVT_5 h8])
      · match m, g3 with
        | 0, g3 => omega
        | m + 1, g3 =>
          refine gy_readTypesL hT hA he hf hc hx hR hQ m (k + 1) v6 h' ?_ (by omega) hG' (fun j j1 j2 => ?_) (fun i hi => ?_) (by omega)
          · rw [e6, Z_add, hk]
            simp only [Int64.reduceToInt]
            omega
          · by_cases e9 : j = f0 + k
            · rw [e9, ← u3]
              exact ⟨u1, u2⟩
            · exact g2 j j1 (by omega)
          · rcases Nat.lt_or_ge i k with h8 | h8
            · exact g2' i h8
            · rw [show i = k by omega, show b + f0 + k = b + (f0 + k) by omega, z_lt, z_lt]
              simp only [Int32.reduceToInt]
              omega
theorem gy_readTypes {Qr : Int32 → xb_H → Nat → Nat → Prop} (hT : rdT h0 rd op md rc rs b R Qt) (hG : rdg ω h0 h rd op md cd nt im N M rc rs rw cb it n vs ν iv a l bc bs) (hA : cx_ cA cb b N) (he : l + b = e) (hR : R = (pRw cA e 1 (b + a)).bind K)
    (hQ : ∀ (u : Int32) (h' : xb_H) (q f0 : Nat), a < f0 → cE cA (b + a) = b + f0 → u.toInt = cV cA (b + a) → f0 + cV cA (b + a) = q → (q : Int) ≤ l → (∀ j, f0 ≤ j → j < q → 124 ≤ (cb j).toInt ∧ (cb j).toInt ≤ 127) → R = K (b + q) → rdg ω h0 h' rd op md cd nt im N M rc rs rw cb it n vs ν iv q l bc bs → Qr u h' bc bs) : w_Reader_readTypes rd h bc bs Qr Qt := by
  unfold w_Reader_readTypes
  refine ⟨hG.krd, gy_count (K := fun _ => R) hT hG hA he (cnR (fun h9 => by rw [hR, pRw_n h9]; rfl)) (fun u h' q q1 q2 q3 q4 ⟨x, q5⟩ _ hG' _ v4 e4 v5 e5 => ⟨(l - q).toNat + 1, ?_⟩)⟩
  have ev := (rC_E q5).2
  refine gy_readTypesL hT hA he (f0 := q) (by rw [e5, hG'.iat]) q5 (by rw [e4, u64 q4, ev]) hR (fun u h' q' t1 t2 t3 t4 t5 hG2 => hQ u h' q' q q1 q3 (by rw [ev]; exact t1) (by rw [ev]; exact t2) t3 t4 t5 hG2) _ 0 0 h' rfl (by omega) hG' (fun j j1 j2 => by omega) (fun i hi => by omega) (by omega)
theorem gy_readType {Qr : xb_H → Nat → Nat → Prop} (hT : rdT h0 rd op md rc rs b R Qt) (hG : rdg ω h0 h rd op md cd nt im N M rc rs rw cb it n vs ν iv a l bc bs) (hI : md_I N cb n vs ν iv a) (hA : cx_ cA cb b N) (he : l + b = e) (hM : 2 * N + 20 ≤ M) (hM2 : M ≤ 1000000) (hR : R = (pEnt cA e 1 (b + a)).bind K)
    (hQ : ∀ (h' : xb_H) (it' n' : Nat → Nat) (vs' : Nat → Nat → Int64) (L : List Int64) (q bc' bs' : Nat), a < q → rdg ω h0 h' rd op md cd nt im N M rc rs rw cb it' n' vs' ν iv q l bc' bs' → md_I N cb n' vs' ν iv q → (∀ j, j ≠ 0 → n' j = n j) → xr_A 0 n vs n' vs' L → L.length = 5 → ep0 cA b (b + a) (fun j => (L.getD j 0).toInt) → R = K (b + q) → Qr h' bc' bs') : w_Reader_readType rd h bc bs Qr Qt := by
  have hR' : R = (pW cA e 96 96 (b + a)).bind (fun q => ((pRw cA e 1 q).bind (fun q2 => pRw cA e 1 q2)).bind K) := by rw [hR]; exact exA
  unfold w_Reader_readType w_Reader_readType_L109
  refine ⟨hG.krd, fun v2 e2 => gy_readMark hT hG hA he (by decide) hR' (fun h1 b1 R1 hG1 _ => gy_readTypes (K := fun q2 => (pRw cA e 1 q2).bind K) hT hG1 hA he (by rw [R1, exA]) (fun r6 h2 q2 f2 c1 c1' c2 c3 c4 c5 R2 hG2 _ v7 e7 => gy_readTypes hT hG2 hA he R2 (fun r9 h3 q3 f3 d1 d1' d2 d3 d4 d5 R3 hG3 _ => ?_)))⟩
  have hal := hG.al
  have hn0 := hI.nk (k := 0) (by omega)
  have ev2 : v2.toInt = a := by rw [e2]; exact hG.iat
  have ev7 : v7.toInt = f2 := by rw [e7, z_sub, hG2.iat, c2]; omega
  have eq2 : b + q2 = cE cA (b + a + 1) + cV cA (b + a + 1) := by
    rw [show b + a + 1 = b + (a + 1) by omega]
    omega
  refine ⟨md, hG3.rmd, hG3.kmd, rw 0, hG3.row (by omega), hG3.krow (by omega), hG3.addA (by omega) (xr_A.rf 0 n vs) (by simp; omega) hM2 (fun h4 it4 n4 vs4 bc4 bs4 hG4 hA4 _ => ?_)⟩
  refine ⟨md, hG4.rmd, hG4.kmd, rw 0, hG4.row (by omega), hG4.krow (by omega), hG4.addA (by omega) hA4 (by simp; omega) hM2 (fun h5 it5 n5 vs5 bc5 bs5 hG5 hA5 _ => ?_)⟩
  refine ⟨md, hG5.rmd, hG5.kmd, rw 0, hG5.row (by omega), hG5.krow (by omega), hG5.addA (by omega) hA5 (by simp; omega) hM2 (fun h6 it6 n6 vs6 bc6 bs6 hG6 hA6 _ => ?_)⟩
  refine ⟨md, hG6.rmd, hG6.kmd, rw 0, hG6.row (by omega), hG6.krow (by omega), hG6.addA (by omega) hA6 (by simp; omega) hM2 (fun h7 it7 n7 vs7 bc7 bs7 hG7 hA7 _ => ?_)⟩
  have fin : ∀ y : Int64, (cV cA (b + q2) = 0 → y.toInt = 64) → (0 < cV cA (b + q2) → (124 ≤ y.toInt ∧ y.toInt ≤ 127) ∧ y.toInt = (ub cA (b + f3)).toInt) → xb_k h7 (rw 0) = 2 ∧ w_Row_add (rw 0) y h7 bc7 bs7 (fun (h2 : xb_H) (bc3 bs3 : Nat) => xb_ext h7 h2 → Qr h2 bc3 bs3) := by
    intro y y1 y2
    refine ⟨hG7.krow (by omega), hG7.addA (by omega) hA7 (by simp; omega) hM2 (fun h8 it8 n8 vs8 bc8 bs8 hG8 hA8 _ => ?_)⟩
    refine hQ h8 it8 n8 vs8 _ q3 bc8 bs8 (by omega) hG8 ((hI.at (a' := q3) (by omega)).a0 hA8 (by simp) (by omega) ?_).cl (fun j hj => (hA8.2.1 j hj).1) hA8 (by simp) ?_ R3
    · unfold mp0
      simp only [List.nil_append, List.cons_append, List.getD_cons_zero, List.getD_cons_succ, Z_of32, ev2, ev7, c2, d2]
      exact ⟨by omega, by omega, by omega, by omega, by omega, by omega, by omega, fun e => y1 (by omega), fun e => (y2 (by omega)).1, fun j j1 j2 => c5 j (by omega) (by omega)⟩
    · unfold ep0
      simp only [List.nil_append, List.cons_append, List.getD_cons_zero, List.getD_cons_succ, Z_of32, ev2, ev7, c2, d2]
      rw [← eq2, d1', show b + a + 1 = b + (a + 1) by omega, c1']
      refine ⟨by omega, by omega, rfl, rfl, ?_⟩
      split
      · exact y1 (by assumption)
      · exact (y2 (by omega)).2
  refine ⟨md, hG7.rmd, hG7.kmd, rw 0, hG7.row (by omega), fun e => ?_, fun e => ?_⟩
  · rw [z_eq, d2] at e
    simp only [Int32.reduceToInt] at e
    have e9 : (xb_i h7 rd 3 - r9).toInt = f3 := by rw [z_sub, hG7.iat, d2]; omega
    refine ⟨cd, hG7.cdr.1, hG7.cdr.2.1, by rw [z_in, e9, hG7.cdr.2.2]; omega, ?_⟩
    rw [z_cl, e9, hG7.icd, Int.toNat_natCast]
    have h9 := d5 f3 (by omega) (by omega)
    refine fin _ (fun e => by omega) (fun _ => ⟨by rw [Z_of32]; exact h9, ?_⟩)
    rw [Z_of32, ub_i, ← hA.1 f3 (by omega)]
    omega
  · rw [z_eq, d2] at e
    simp only [Int32.reduceToInt] at e
    exact fin 64 (fun _ => rfl) (fun e => by omega)
theorem gy_readLimits {Qr : xb_H → Nat → Nat → Prop} {k p : Nat} {x2 : Int32} (hT : rdT h0 rd op md rc rs b R Qt) (hG : rdg ω h0 h rd op md cd nt im N M rc rs rw cb it n vs ν iv a l bc bs) (hA : cx_ cA cb b N) (he : l + b = e) (hk : k < 12) (hn : n k + 10 ≤ M) (hM2 : M ≤ 1000000) (hx : x2.toInt = p) (hp : p < N) (hR : R = (pLim cA e (b + a)).bind K)
    (hQ : ∀ (h' : xb_H) (it' n' : Nat → Nat) (vs' : Nat → Nat → Int64) (q bc' bs' : Nat) (L : List Int64), a + 1 < q → (q : Int) ≤ l → rdg ω h0 h' rd op md cd nt im N M rc rs rw cb it' n' vs' ν iv q l bc' bs' → xr_A k n vs n' vs' L → L.length = 3 → (∀ i, mp3 N i (fun j => (L.getD j 0).toInt)) → epL cA b (b + p) (b + a) (fun j => (L.getD j 0).toInt) → R = K (b + q) → Qr h' bc' bs') : w_Reader_readLimits rd (rw k) x2 h bc bs Qr Qt := by
  have hR' : R = (pW cA e 0 1 (b + a)).bind (fun q => ((pCx cA e q).bind (fun q1 => if ub cA (b + a) = 1 then pCx cA e q1 else .ok q1)).bind K) := by rw [hR]; exact exA
  unfold w_Reader_readLimits w_Reader_readLimits_L46
  refine ⟨hG.krd, gy_byteUpTo hT hG hA he hR' (fun h2 b2 b3 R1 hG2 _ => ⟨hG2.krow hk, hG2.addA hk (xr_A.rf k n vs) (by simp; omega) hM2 (fun h5 it5 n5 vs5 bc5 bs5 hG5 hA5 _ => gy_count (K := fun q1 => (if ub cA (b + a) = 1 then pCx cA e q1 else .ok q1).bind K) hT hG5 hA he (by rw [R1, exA]) (fun r8 h7 q7 c1 c2 c3 c4 c5 R2 hG7 _ => hG7.addA hk hA5 (by simp; omega) hM2 (fun h9 it9 n9 vs9 bc9 bs9 hG9 hA9 _ => ⟨fun hn1 => ⟨hG9.krow hk, hG9.addA hk hA9 (by simp; omega) hM2 (fun h10 it10 n10 vs10 bc10 bs10 hG10 hA10 _ => ?_)⟩, fun h1 => gy_count (K := K) hT hG9 hA he (by rw [R2, if_pos h1]) (fun r13 h12 q12 d1 d2 d3 d4 d5 R3 hG12 _ => ⟨hG12.krow hk, hG12.addA hk hA9 (by simp; omega) hM2 (fun h13 it13 n13 vs13 bc13 bs13 hG13 hA13 _ => ?_)⟩)⟩)))⟩)⟩
  · refine hQ h10 it10 n10 vs10 q7 bc10 bs10 _ (by omega) c2 hG10 hA10 (by simp) (fun i => ?_) ?_ (by rw [R2, if_neg hn1]; rfl)
    · unfold mp3
      simp only [List.nil_append, List.cons_append, List.getD_cons_zero, List.getD_cons_succ, Z_of32, Z_low, hx]
      exact ⟨by omega, by omega, by omega, by omega, .inl rfl⟩
    · unfold epL
      simp only [List.nil_append, List.cons_append, List.getD_cons_zero, List.getD_cons_succ, Z_of32, hx]
      rw [u64 c4, if_neg hn1]
      exact ⟨by omega, rfl, rfl⟩
  · refine hQ h13 it13 n13 vs13 q12 bc13 bs13 _ (by omega) d2 hG13 hA13 (by simp) (fun i => ?_) ?_ R3
    · unfold mp3
      simp only [List.nil_append, List.cons_append, List.getD_cons_zero, List.getD_cons_succ, Z_of32, Z_low, hx]
      exact ⟨by omega, by omega, by omega, by omega, .inr ⟨by omega, by omega⟩⟩
    · unfold epL
      simp only [List.nil_append, List.cons_append, List.getD_cons_zero, List.getD_cons_succ, Z_of32, hx]
      rw [u64 c4, u64 d4, if_pos h1, show b + a + 1 = b + (a + 1) by omega, c3]
      exact ⟨by omega, rfl, rfl⟩
theorem gy_readTable {Qr : xb_H → Nat → Nat → Prop} (hT : rdT h0 rd op md rc rs b R Qt) (hG : rdg ω h0 h rd op md cd nt im N M rc rs rw cb it n vs ν iv a l bc bs) (hI : md_I N cb n vs ν iv a) (hA : cx_ cA cb b N) (he : l + b = e) (hM : 2 * N + 20 ≤ M) (hM2 : M ≤ 1000000) (hR : R = (pTab cA e (b + a)).bind K)
    (hQ : ∀ (h' : xb_H) (it' n' : Nat → Nat) (vs' : Nat → Nat → Int64) (L : List Int64) (q bc' bs' : Nat), a < q → rdg ω h0 h' rd op md cd nt im N M rc rs rw cb it' n' vs' ν iv q l bc' bs' → md_I N cb n' vs' ν iv q → (∀ j, n j ≤ n' j) → xr_A 3 n vs n' vs' L → L.length = 3 → epL cA b (b + a) (b + a + 1) (fun j => (L.getD j 0).toInt) → R = K (b + q) → Qr h' bc' bs') : w_Reader_readTable rd h bc bs Qr Qt := by
  unfold w_Reader_readTable
  have hal := hG.al
  have hn := hI.nk (k := 3) (by omega)
  refine ⟨hG.krd, fun v2 e2 => gy_readMark (K := fun q => (pLim cA e q).bind K) hT hG hA he (by decide) (by rw [hR]; exact exA) (fun h3 b1 R1 hG3 _ => ⟨md, hG3.rmd, hG3.kmd, rw 3, hG3.row (by omega), gy_readLimits (p := a) hT hG3 hA he (by omega) (by omega) hM2 (by rw [e2]; exact hG.iat) (by omega) R1 (fun h' it' n' vs' q bc' bs' L c1 c2 hG4 hA' hL hp hE R2 _ => ?_)⟩)⟩
  refine hQ h' it' n' vs' L q bc' bs' (by omega) hG4 ((hI.at (a' := q) (by omega)).a3 hA' hL (by omega) (hp _)).cl (fun j => ?_) hA' hL hE R2
  by_cases e : j = 3
  · rw [e, hA'.1]
    omega
  · rw [(hA'.2.1 j e).1]
    omega
theorem gy_readVariableType {Qr : xb_H → Nat → Nat → Prop} {p : Nat} {x1 : Int32} (hT : rdT h0 rd op md rc rs b R Qt) (hG : rdg ω h0 h rd op md cd nt im N M rc rs rw cb it n vs ν iv a l bc bs) (hA : cx_ cA cb b N) (he : l + b = e) (hn : n 5 + 10 ≤ M) (hM2 : M ≤ 1000000) (hx : x1.toInt = p) (hR : R = (pVar cA e (b + a)).bind K)
    (hQ : ∀ (h' : xb_H) (it' n' : Nat → Nat) (vs' : Nat → Nat → Int64) (bc' bs' : Nat) (t c : Int64), (a : Int) + 2 ≤ l → 124 ≤ t.toInt → t.toInt ≤ 127 → c.toInt = 0 ∨ c.toInt = 1 → rdg ω h0 h' rd op md cd nt im N M rc rs rw cb it' n' vs' ν iv (a + 2) l bc' bs' → xr_A 5 n vs n' vs' ([] ++ [Int32.toInt64 x1] ++ [t] ++ [c]) → t.toInt = (ub cA (b + a)).toInt → c.toInt = (ub cA (b + a + 1)).toInt → R = K (b + (a + 2)) → Qr h' bc' bs') : w_Reader_readVariableType rd x1 h bc bs Qr Qt := by
  unfold w_Reader_readVariableType
  refine ⟨hG.krd, md, hG.rmd, hG.kmd, rw 5, hG.row (by omega), hG.krow (by omega), hG.addA (by omega) (xr_A.rf 5 n vs) (by simp; omega) hM2 (fun h6 it6 n6 vs6 bc6 bs6 hG6 hA6 _ => ?_)⟩
  refine ⟨md, hG6.rmd, hG6.kmd, rw 5, hG6.row (by omega), gy_valueType (K := fun q => (pW cA e 0 1 q).bind K) hT hG6 hA he (by rw [hR]; exact exA) (fun h11 b1 b2 b3 b4 R1 hG11 _ => ⟨hG11.krow (by omega), hG11.addA (by omega) hA6 (by simp; omega) hM2 (fun h14 it14 n14 vs14 bc14 bs14 hG14 hA14 _ => ?_)⟩)⟩
  refine ⟨md, hG14.rmd, hG14.kmd, rw 5, hG14.row (by omega), gy_byteUpTo hT hG14 hA he R1 (fun h19 c2 c3 R2 hG19 _ => ⟨hG19.krow (by omega), hG19.addA (by omega) hA14 (by simp; omega) hM2 (fun h22 it22 n22 vs22 bc22 bs22 hG22 hA22 _ => ?_)⟩)⟩
  rw [z_le] at c2
  simp only [Int32.reduceToInt] at c2
  have := ub_r (cb := cA) (p := b + (a + 1))
  exact hQ h22 it22 n22 vs22 bc22 bs22 _ _ (by omega) (by rw [Z_of32]; exact b1) (by rw [Z_of32]; exact b2) (by rw [Z_of32]; omega) hG22 hA22 (by rw [Z_of32]) (by rw [Z_of32]; rfl) R2
theorem gy_readExpression {Qr : xb_H → Nat → Nat → Prop} (hT : rdT h0 rd op md rc rs b R Qt) (hG : rdg ω h0 h rd op md cd nt im N M rc rs rw cb it n vs ν iv a l bc bs) (hA : cx_ cA cb b N) (he : l + b = e) (h8 : 8 ≤ a) (hz : ∀ j, a ≤ j → ν j = 0) (hR : R = (pExp cA e (b + a)).bind K)
    (hQ : ∀ (h' : xb_H) (ν' : Nat → Int32) (q : Nat), a < q → (q : Int) ≤ l → (∀ j, j < a → ν' j = ν j) → (∀ j, q ≤ j → ν' j = 0) → (∃ m, wk cb ν' q m a []) → (∃ m, wkC cA ν' b (b + q) m (b + a) 0) → R = K (b + q) → rdg ω h0 h' rd op md cd nt im N M rc rs rw cb it n vs ν' iv q l bc bs → Qr h' bc bs) : w_Reader_readExpression rd h bc bs Qr Qt := by
  have hcd := hG.1.2.2.2.2.2.2.2.2.1
  have hal := hG.al
  refine y_readExpression (a0 := a) hT hG.X (hG.q hA he) hG.1.2.2.1 hG.c hG.b (by omega) hA.2.1 hR (by rw [hG.icd]; exact hA.2.2) ⟨hcd.2.2.2.1, hcd.2.2.2.2.1, hcd.2.2.2.2.2⟩ hG.1.2.2.2.2.2.1 hz (fun q v' ν' f' c1 c2 c3 c4 c5 c6 c7 c8 => ?_)
  rw [hG.icd] at c6
  exact hQ _ ν' q c2 (by omega) c4 c5 c6 c7 c8 (hG.E c1 (by omega))
/-- an own variable -/
def ep5 (cA : Nat → Int32) (b p : Nat) (w : Nat → Int) : Prop := w 0 + b = p ∧ w 1 = (ub cA p).toInt ∧ w 2 = (ub cA (p + 1)).toInt ∧ w 3 + b = (p + 2 : Nat)
theorem gy_readVariable {Qr : xb_H → Nat → Nat → Prop} (hT : rdT h0 rd op md rc rs b R Qt) (hG : rdg ω h0 h rd op md cd nt im N M rc rs rw cb it n vs ν iv a l bc bs) (hI : md_I N cb n vs ν iv a) (hA : cx_ cA cb b N) (he : l + b = e) (hq4 : 4 * (iv 3).toInt ≤ n 5) (hM : 2 * N + 20 ≤ M) (hM2 : M ≤ 1000000) (hR : R = (pEnt cA e 6 (b + a)).bind K)
    (hQ : ∀ (h' : xb_H) (it' n' : Nat → Nat) (vs' : Nat → Nat → Int64) (ν' : Nat → Int32) (L : List Int64) (q bc' bs' : Nat), a < q → rdg ω h0 h' rd op md cd nt im N M rc rs rw cb it' n' vs' ν' iv q l bc' bs' → md_I N cb n' vs' ν' iv q → (∀ j, n j ≤ n' j) → xr_A 5 n vs n' vs' L → L.length = 4 → ep5 cA b (b + a) (fun j => (L.getD j 0).toInt) → (∀ j, j < a → ν' j = ν j) → (∃ m, wkC cA ν' b (b + q) m (b + a + 2) 0) → R = K (b + q) → Qr h' bc' bs') : w_Reader_readVariable rd h bc bs Qr Qt := by
  unfold w_Reader_readVariable
  have hal := hG.al
  have hn := hI.nk (k := 5) (by omega)
  have h8 := hI.ge8
  refine ⟨hG.krd, gy_readVariableType (K := fun q => (pExp cA e q).bind K) hT hG hA he (by omega) hM2 hG.iat (by rw [hR]; exact exA) (fun h2 it2 n2 vs2 bc2 bs2 t c b1 b2 b3 b4 hG2 hA2 b5 b6 R1 _ => ⟨md, hG2.rmd, hG2.kmd, rw 5, hG2.row (by omega), hG2.krow (by omega), hG2.addA (by omega) hA2 (by simp; omega) hM2 (fun h8 it8 n8 vs8 bc8 bs8 hG8 hA8 _ => ?_)⟩)⟩
  refine gy_readExpression hT hG8 hA he (by omega) (fun j hj => hI.z j (by omega)) R1 (fun h' ν' q c1 c2 c3 c4 c5 c6 R2 hG9 _ => ?_)
  refine hQ h' it8 n8 vs8 ν' _ q bc8 bs8 (by omega) hG9 ((hI.ex (a' := q) (ν' := ν') (by omega) (fun j hj => c3 j (by omega)) c4).x5 (p := a + 2) (e := q) (b' := q) hA8 (by simp) (by omega) (by omega) c1 (Nat.le_refl q) (Nat.le_refl q) ?_ c5 (fun en hm => ?_)) (fun j => ?_) hA8 (by simp) ?_ (fun j hj => c3 j (by omega)) c6 R2
  · simp only [List.nil_append, List.cons_append, List.getD_cons_zero, List.getD_cons_succ, Z_of32, hG2.iat]
  · unfold mp5
    simp only [List.nil_append, List.cons_append, List.getD_cons_zero, List.getD_cons_succ, Z_of32, hG.iat, hG2.iat]
    exact ⟨by omega, by omega, b2, b3, b4, fun e => by omega, fun _ => hm⟩
  · by_cases e : j = 5
    · rw [e, hA8.1]
      omega
    · rw [(hA8.2.1 j e).1]
      omega
  · unfold ep5
    simp only [List.nil_append, List.cons_append, List.getD_cons_zero, List.getD_cons_succ, Z_of32, hG.iat, hG2.iat]
    exact ⟨by omega, b5, b6, by omega⟩
theorem gy_readExport {Qr : xb_H → Nat → Nat → Prop} (hT : rdT h0 rd op md rc rs b R Qt) (hG : rdg ω h0 h rd op md cd nt im N M rc rs rw cb it n vs ν iv a l bc bs) (hI : md_I N cb n vs ν iv a) (hA : cx_ cA cb b N) (he : l + b = e) (hM : 2 * N + 20 ≤ M) (hM2 : M ≤ 1000000) (hR : R = (pEnt cA e 7 (b + a)).bind K)
    (hQ : ∀ (h' : xb_H) (it' n' : Nat → Nat) (vs' : Nat → Nat → Int64) (L : List Int64) (q bc' bs' : Nat), a < q → rdg ω h0 h' rd op md cd nt im N M rc rs rw cb it' n' vs' ν iv q l bc' bs' → md_I N cb n' vs' ν iv q → (∀ j, n j ≤ n' j) → xr_A 6 n vs n' vs' L → L.length = 5 → ep6 cA b (b + a) (fun j => (L.getD j 0).toInt) → R = K (b + q) → Qr h' bc' bs') : w_Reader_readExport rd h bc bs Qr Qt := by
  unfold w_Reader_readExport
  have hal := hG.al
  have hn := hI.nk (k := 6) (by omega)
  have hR' : R = (pNm cA e (b + a)).bind (fun q => ((pW cA e 0 3 q).bind (fun q2 => pCx cA e q2)).bind K) := by rw [hR]; exact exA
  refine ⟨hG.krd, fun v2 e2 => gy_readName hT hG hA he hR' (fun r4 h3 q3 b0 b2 b3 b4 b5 R1 hG3 _ v5 e5 => ?_)⟩
  have b1 : 0 ≤ r4.toInt := by omega
  have ev2 : v2.toInt = a := by rw [e2]; exact hG.iat
  have ev5 : v5.toInt = q3 - r4.toInt := by rw [e5, z_sub, hG3.iat]; omega
  refine ⟨md, hG3.rmd, hG3.kmd, rw 6, hG3.row (by omega), hG3.krow (by omega), hG3.addA (by omega) (xr_A.rf 6 n vs) (by simp; omega) hM2 (fun h4 it4 n4 vs4 bc4 bs4 hG4 hA4 _ => ?_)⟩
  refine ⟨md, hG4.rmd, hG4.kmd, rw 6, hG4.row (by omega), gy_byteUpTo (K := fun q2 => (pCx cA e q2).bind K) hT hG4 hA he (by rw [R1, exA]) (fun h15 c2 c3 R2 hG15 _ => ⟨hG15.krow (by omega), hG15.addA (by omega) hA4 (by simp; omega) hM2 (fun h5 it5 n5 vs5 bc5 bs5 hG5 hA5 _ => ?_)⟩)⟩
  rw [z_le] at c2
  simp only [Int32.reduceToInt] at c2
  have c1 := (ub_r (cb := cA) (p := b + q3)).1
  refine ⟨md, hG5.rmd, hG5.kmd, rw 6, hG5.row (by omega), gy_count hT hG5 hA he R2 (fun r24 h23 q23 d1 d2 d3 d4 d5 R3 hG23 _ => ⟨hG23.krow (by omega), hG23.addA (by omega) hA5 (by simp; omega) hM2 (fun h6 it6 n6 vs6 bc6 bs6 hG6 hA6 _ => ?_)⟩)⟩
  refine ⟨md, hG6.rmd, hG6.kmd, rw 6, hG6.row (by omega), hG6.krow (by omega), hG6.addA (by omega) hA6 (by simp; omega) hM2 (fun h7 it7 n7 vs7 bc7 bs7 hG7 hA7 _ => ?_)⟩
  refine ⟨md, hG7.rmd, hG7.kmd, rw 6, hG7.row (by omega), hG7.krow (by omega), hG7.addA (by omega) hA7 (by simp; omega) hM2 (fun h8 it8 n8 vs8 bc8 bs8 hG8 hA8 _ => ?_)⟩
  refine hQ h8 it8 n8 vs8 _ q23 bc8 bs8 (by omega) hG8 ((hI.at (a' := q23) (by omega)).a6 hA8 (by simp) (by omega) ?_).cl (fun j => ?_) hA8 (by simp) ?_ R3
  · unfold mp6
    simp only [List.nil_append, List.cons_append, List.getD_cons_zero, List.getD_cons_succ, Z_of32, Z_low, ev2, ev5]
    exact ⟨by omega, by omega, c1, c2, by omega, by omega, by omega, b1, by omega⟩
  · by_cases e : j = 6
    · rw [e, hA8.1]
      omega
    · rw [(hA8.2.1 j e).1]
      omega
  · unfold ep6
    simp only [List.nil_append, List.cons_append, List.getD_cons_zero, List.getD_cons_succ, Z_of32, ev2, ev5]
    rw [u64 d4, b4]
    exact ⟨by omega, rfl, rfl, by omega, b0⟩
end CR6
