-- the reader's methods that fill rows
def md_Q (n : Nat → Nat) (iv : Nat → Int32) : Prop := 2 * (iv 0).toInt ≤ n 2 ∧ 3 * (iv 1).toInt ≤ n 3 ∧ 3 * (iv 2).toInt ≤ n 4 ∧ 4 * (iv 3).toInt ≤ n 5
def md_Z (n : Nat → Nat) (iv : Nat → Int32) : Prop := 2 * (iv 0).toInt = n 2 ∧ 3 * (iv 1).toInt = n 3 ∧ 3 * (iv 2).toInt = n 4 ∧ 4 * (iv 3).toInt = n 5
section RDN
variable {h0 h : xb_H} {rd op md cd nt im N M rc rs : Nat} {rw : Nat → Nat} {cb : Nat → Int32} {it n : Nat → Nat} {vs : Nat → Nat → Int64} {ν iv : Nat → Int32} {a : Nat} {l : Int} {bc bs : Nat} {Qt : String → xb_H → Nat → Nat → Prop}
theorem md_K.nk {b : Nat} (hI : md_K N cb n vs ν iv b a) {k : Nat} (hk : k < 12) : n k ≤ 2 * a := by
  obtain ⟨en, h⟩ := hI
  exact h.2.2.2.2.2.2.2.2.2.2.2.2.2.1 k hk
theorem md_K.cnt {b : Nat} (hI : md_K N cb n vs ν iv b a) : ∀ κ, κ < 4 → (iv κ).toInt = mcnt (vs 1) κ (n 1 / 7) := by
  obtain ⟨en, h⟩ := hI
  exact h.2.2.2.2.2.2.2.2.2.2.2.2.1
theorem md_K.z {b : Nat} (hI : md_K N cb n vs ν iv b a) : ∀ j, a ≤ j → ν j = 0 := by
  obtain ⟨en, h⟩ := hI
  exact h.z
theorem md_K.ge8 {b : Nat} (hI : md_K N cb n vs ν iv b a) : 8 ≤ a := by
  obtain ⟨en, h⟩ := hI
  exact h.2.2.2.2.2.2.2.2.2.2.2.2.2.2.2.1
theorem md_I.nk (hI : md_I N cb n vs ν iv a) {k : Nat} (hk : k < 12) : n k ≤ 2 * a := md_K.nk hI hk
theorem md_I.cnt (hI : md_I N cb n vs ν iv a) : ∀ κ, κ < 4 → (iv κ).toInt = mcnt (vs 1) κ (n 1 / 7) := md_K.cnt hI
theorem md_I.z (hI : md_I N cb n vs ν iv a) : ∀ j, a ≤ j → ν j = 0 := md_K.z hI
theorem md_I.ge8 (hI : md_I N cb n vs ν iv a) : 8 ≤ a := md_K.ge8 hI
theorem rdG_readType {Qr : xb_H → Nat → Nat → Prop} (hT : rd_T h0 rd op md rc rs Qt) (hG : rd_G h0 h rd op md cd nt im N M rc rs rw cb it n vs ν iv a l bc bs) (hI : md_I N cb n vs ν iv a) (hby : ∀ j, -128 ≤ (cb j).toInt ∧ (cb j).toInt ≤ 127) (hM : 2 * N + 20 ≤ M) (hM2 : M ≤ 1000000)
    (hQ : ∀ (h' : xb_H) (it' n' : Nat → Nat) (vs' : Nat → Nat → Int64) (q bc' bs' : Nat), a < q → rd_G h0 h' rd op md cd nt im N M rc rs rw cb it' n' vs' ν iv q l bc' bs' → md_I N cb n' vs' ν iv q → (∀ j, j ≠ 0 → n' j = n j) → Qr h' bc' bs') : w_Reader_readType rd h bc bs Qr Qt := by
  unfold w_Reader_readType w_Reader_readType_L109
  refine ⟨hG.krd, fun v2 e2 => rdG_readMark hT hG (fun h1 b1 hG1 _ => rdG_readTypes hT hG1 hby (fun r6 h2 q2 t2 f2 c1 c2 c3 c4 c5 hG2 _ v7 e7 => rdG_readTypes hT hG2 hby (fun r9 h3 q3 t3 f3 d1 d2 d3 d4 d5 hG3 _ => ?_)))⟩
  have hal := hG.al
  have hn0 := hI.nk (k := 0) (by omega)
  have ev2 : v2.toInt = a := by rw [e2]; exact hG.iat
  have ev7 : v7.toInt = f2 := by rw [e7, z_sub, hG2.iat, c2]; omega
  refine ⟨md, hG3.rmd, hG3.kmd, rw 0, hG3.row (by omega), hG3.krow (by omega), hG3.addA (by omega) (xr_A.rf 0 n vs) (by simp; omega) hM2 (fun h4 it4 n4 vs4 bc4 bs4 hG4 hA4 _ => ?_)⟩
  refine ⟨md, hG4.rmd, hG4.kmd, rw 0, hG4.row (by omega), hG4.krow (by omega), hG4.addA (by omega) hA4 (by simp; omega) hM2 (fun h5 it5 n5 vs5 bc5 bs5 hG5 hA5 _ => ?_)⟩
  refine ⟨md, hG5.rmd, hG5.kmd, rw 0, hG5.row (by omega), hG5.krow (by omega), hG5.addA (by omega) hA5 (by simp; omega) hM2 (fun h6 it6 n6 vs6 bc6 bs6 hG6 hA6 _ => ?_)⟩
  refine ⟨md, hG6.rmd, hG6.kmd, rw 0, hG6.row (by omega), hG6.krow (by omega), hG6.addA (by omega) hA6 (by simp; omega) hM2 (fun h7 it7 n7 vs7 bc7 bs7 hG7 hA7 _ => ?_)⟩
  have fin : ∀ y : Int64, (t3 = 0 → y.toInt = 64) → (0 < t3 → 124 ≤ y.toInt ∧ y.toInt ≤ 127) → xb_k h7 (rw 0) = 2 ∧ w_Row_add (rw 0) y h7 bc7 bs7 (fun (h2 : xb_H) (bc3 bs3 : Nat) => xb_ext h7 h2 → Qr h2 bc3 bs3) := by
    intro y y1 y2
    refine ⟨hG7.krow (by omega), hG7.addA (by omega) hA7 (by simp; omega) hM2 (fun h8 it8 n8 vs8 bc8 bs8 hG8 hA8 _ => ?_)⟩
    refine hQ h8 it8 n8 vs8 q3 bc8 bs8 (by omega) hG8 ((hI.at (a' := q3) (by omega)).a0 hA8 (by simp) (by omega) ?_).cl (fun j hj => (hA8.2.1 j hj).1)
    unfold mp0
    simp only [List.nil_append, List.cons_append, List.getD_cons_zero, List.getD_cons_succ, Z_of32, ev2, ev7, c2, d2]
    exact ⟨by omega, by omega, by omega, by omega, by omega, by omega, by omega, fun e => y1 (by omega), fun e => y2 (by omega), fun j j1 j2 => c5 j (by omega) (by omega)⟩
  refine ⟨md, hG7.rmd, hG7.kmd, rw 0, hG7.row (by omega), fun e => ?_, fun e => ?_⟩
  · rw [z_eq, d2] at e
    simp only [Int32.reduceToInt] at e
    have e9 : (xb_i h7 rd 3 - r9).toInt = f3 := by rw [z_sub, hG7.iat, d2]; omega
    refine ⟨cd, hG7.cdr.1, hG7.cdr.2.1, by rw [z_in, e9, hG7.cdr.2.2]; omega, ?_⟩
    rw [z_cl, e9, hG7.icd, Int.toNat_natCast]
    have h9 := d5 f3 (by omega) (by omega)
    exact fin _ (fun e => by omega) (fun _ => by rw [Z_of32]; exact h9)
  · rw [z_eq, d2] at e
    simp only [Int32.reduceToInt] at e
    exact fin 64 (fun _ => rfl) (fun e => by omega)
theorem rdG_readLimits {Qr : xb_H → Nat → Nat → Prop} {k p : Nat} {x2 : Int32} (hT : rd_T h0 rd op md rc rs Qt) (hG : rd_G h0 h rd op md cd nt im N M rc rs rw cb it n vs ν iv a l bc bs) (hk : k < 12) (hn : n k + 10 ≤ M) (hM2 : M ≤ 1000000) (hx : x2.toInt = p) (hp : p < N)
    (hQ : ∀ (h' : xb_H) (it' n' : Nat → Nat) (vs' : Nat → Nat → Int64) (q bc' bs' : Nat) (L : List Int64), a + 1 < q → (q : Int) ≤ l → rd_G h0 h' rd op md cd nt im N M rc rs rw cb it' n' vs' ν iv q l bc' bs' → xr_A k n vs n' vs' L → L.length = 3 → (∀ i, mp3 N i (fun j => (L.getD j 0).toInt)) → Qr h' bc' bs') : w_Reader_readLimits rd (rw k) x2 h bc bs Qr Qt := by
  unfold w_Reader_readLimits w_Reader_readLimits_L46
  refine ⟨hG.krd, rdG_byteUpTo hT hG (fun r3 h2 b1 b2 b3 hG2 _ => ⟨hG2.krow hk, hG2.addA hk (xr_A.rf k n vs) (by simp; omega) hM2 (fun h5 it5 n5 vs5 bc5 bs5 hG5 hA5 _ => rdG_count hT hG5 (fun r8 h7 q7 c1 c2 hG7 _ => hG7.addA hk hA5 (by simp; omega) hM2 (fun h9 it9 n9 vs9 bc9 bs9 hG9 hA9 _ => ⟨fun _ => ⟨hG9.krow hk, hG9.addA hk hA9 (by simp; omega) hM2 (fun h10 it10 n10 vs10 bc10 bs10 hG10 hA10 _ => ?_)⟩, fun _ => rdG_count hT hG9 (fun r13 h12 q12 d1 d2 hG12 _ => ⟨hG12.krow hk, hG12.addA hk hA9 (by simp; omega) hM2 (fun h13 it13 n13 vs13 bc13 bs13 hG13 hA13 _ => ?_)⟩)⟩)))⟩)⟩
  · refine hQ h10 it10 n10 vs10 q7 bc10 bs10 _ (by omega) c2 hG10 hA10 (by simp) (fun i => ?_)
    unfold mp3
    simp only [List.nil_append, List.cons_append, List.getD_cons_zero, List.getD_cons_succ, Z_of32, Z_low, hx]
    exact ⟨by omega, by omega, by omega, by omega, .inl rfl⟩
  · refine hQ h13 it13 n13 vs13 q12 bc13 bs13 _ (by omega) d2 hG13 hA13 (by simp) (fun i => ?_)
    unfold mp3
    simp only [List.nil_append, List.cons_append, List.getD_cons_zero, List.getD_cons_succ, Z_of32, Z_low, hx]
    exact ⟨by omega, by omega, by omega, by omega, .inr ⟨by omega, by omega⟩⟩
theorem rdG_readTable {Qr : xb_H → Nat → Nat → Prop} (hT : rd_T h0 rd op md rc rs Qt) (hG : rd_G h0 h rd op md cd nt im N M rc rs rw cb it n vs ν iv a l bc bs) (hI : md_I N cb n vs ν iv a) (hM : 2 * N + 20 ≤ M) (hM2 : M ≤ 1000000)
    (hQ : ∀ (h' : xb_H) (it' n' : Nat → Nat) (vs' : Nat → Nat → Int64) (q bc' bs' : Nat), a < q → rd_G h0 h' rd op md cd nt im N M rc rs rw cb it' n' vs' ν iv q l bc' bs' → md_I N cb n' vs' ν iv q → (∀ j, n j ≤ n' j) → Qr h' bc' bs') : w_Reader_readTable rd h bc bs Qr Qt := by
  unfold w_Reader_readTable
  have hal := hG.al
  have hn := hI.nk (k := 3) (by omega)
  refine ⟨hG.krd, fun v2 e2 => rdG_readMark hT hG (fun h3 b1 hG3 _ => ⟨md, hG3.rmd, hG3.kmd, rw 3, hG3.row (by omega), rdG_readLimits (p := a) hT hG3 (by omega) (by omega) hM2 (by rw [e2]; exact hG.iat) (by omega) (fun h' it' n' vs' q bc' bs' L c1 c2 hG4 hA hL hp _ => ?_)⟩)⟩
  refine hQ h' it' n' vs' q bc' bs' (by omega) hG4 ((hI.at (a' := q) (by omega)).a3 hA hL (by omega) (hp _)).cl (fun j => ?_)
  by_cases e : j = 3
  · rw [e, hA.1]
    omega
  · rw [(hA.2.1 j e).1]
    omega
theorem rdG_readVariableType {Qr : xb_H → Nat → Nat → Prop} {p : Nat} {x1 : Int32} (hT : rd_T h0 rd op md rc rs Qt) (hG : rd_G h0 h rd op md cd nt im N M rc rs rw cb it n vs ν iv a l bc bs) (hby : ∀ j, -128 ≤ (cb j).toInt ∧ (cb j).toInt ≤ 127) (hn : n 5 + 10 ≤ M) (hM2 : M ≤ 1000000) (hx : x1.toInt = p)
    (hQ : ∀ (h' : xb_H) (it' n' : Nat → Nat) (vs' : Nat → Nat → Int64) (bc' bs' : Nat) (t c : Int64), (a : Int) + 2 ≤ l → 124 ≤ t.toInt → t.toInt ≤ 127 → c.toInt = 0 ∨ c.toInt = 1 → rd_G h0 h' rd op md cd nt im N M rc rs rw cb it' n' vs' ν iv (a + 2) l bc' bs' → xr_A 5 n vs n' vs' ([] ++ [Int32.toInt64 x1] ++ [t] ++ [c]) → Qr h' bc' bs') : w_Reader_readVariableType rd x1 h bc bs Qr Qt := by
  unfold w_Reader_readVariableType
  refine ⟨hG.krd, md, hG.rmd, hG.kmd, rw 5, hG.row (by omega), hG.krow (by omega), hG.addA (by omega) (xr_A.rf 5 n vs) (by simp; omega) hM2 (fun h6 it6 n6 vs6 bc6 bs6 hG6 hA6 _ => ?_)⟩
  refine ⟨md, hG6.rmd, hG6.kmd, rw 5, hG6.row (by omega), rdG_valueType hT hG6 hby (fun r12 h11 b1 b2 b3 b4 hG11 _ => ⟨hG11.krow (by omega), hG11.addA (by omega) hA6 (by simp; omega) hM2 (fun h14 it14 n14 vs14 bc14 bs14 hG14 hA14 _ => ?_)⟩)⟩
  refine ⟨md, hG14.rmd, hG14.kmd, rw 5, hG14.row (by omega), rdG_byteUpTo hT hG14 (fun r20 h19 c1 c2 c3 hG19 _ => ⟨hG19.krow (by omega), hG19.addA (by omega) hA14 (by simp; omega) hM2 (fun h22 it22 n22 vs22 bc22 bs22 hG22 hA22 _ => ?_)⟩)⟩
  simp only [Int32.reduceToInt] at c2
  exact hQ h22 it22 n22 vs22 bc22 bs22 _ _ (by omega) (by rw [Z_of32]; exact b1) (by rw [Z_of32]; exact b2) (by rw [Z_of32]; omega) hG22 hA22
theorem rdG_readExpression {Qr : xb_H → Nat → Nat → Prop} (hT : rd_T h0 rd op md rc rs Qt) (hG : rd_G h0 h rd op md cd nt im N M rc rs rw cb it n vs ν iv a l bc bs) (hby : ∀ j, -128 ≤ (cb j).toInt ∧ (cb j).toInt ≤ 127) (h8 : 8 ≤ a) (hz : ∀ j, a ≤ j → ν j = 0)
    (hQ : ∀ (h' : xb_H) (ν' : Nat → Int32) (q : Nat), a < q → (q : Int) ≤ l → (∀ j, j < a → ν' j = ν j) → (∀ j, q ≤ j → ν' j = 0) → (∃ m, wk cb ν' q m a []) → rd_G h0 h' rd op md cd nt im N M rc rs rw cb it n vs ν' iv q l bc bs → Qr h' bc bs) : w_Reader_readExpression rd h bc bs Qr Qt := by
  have hcd := hG.2.2.2.2.2.2.2.2.1
  refine sp_Reader_readExpression (a0 := a) hT hG.X hG.s hG.2.2.1 hG.c hG.b (by omega) (by rw [hG.icd]; exact hby) ⟨hcd.2.2.2.1, hcd.2.2.2.2.1, hcd.2.2.2.2.2⟩ hG.2.2.2.2.2.1 hz (fun q v' ν' f' c1 c2 c3 c4 c5 c6 => ?_)
  rw [hG.icd] at c6
  exact hQ _ ν' q c2 c3 c4 c5 c6 (hG.E c1 c3)
theorem rdG_readVariable {Qr : xb_H → Nat → Nat → Prop} (hT : rd_T h0 rd op md rc rs Qt) (hG : rd_G h0 h rd op md cd nt im N M rc rs rw cb it n vs ν iv a l bc bs) (hI : md_I N cb n vs ν iv a) (hq4 : 4 * (iv 3).toInt ≤ n 5) (hby : ∀ j, -128 ≤ (cb j).toInt ∧ (cb j).toInt ≤ 127) (hM : 2 * N + 20 ≤ M) (hM2 : M ≤ 1000000)
    (hQ : ∀ (h' : xb_H) (it' n' : Nat → Nat) (vs' : Nat → Nat → Int64) (ν' : Nat → Int32) (q bc' bs' : Nat), a < q → rd_G h0 h' rd op md cd nt im N M rc rs rw cb it' n' vs' ν' iv q l bc' bs' → md_I N cb n' vs' ν' iv q → (∀ j, n j ≤ n' j) → Qr h' bc' bs') : w_Reader_readVariable rd h bc bs Qr Qt := by
  unfold w_Reader_readVariable
  have hal := hG.al
  have hn := hI.nk (k := 5) (by omega)
  have h8 := hI.ge8
  refine ⟨hG.krd, rdG_readVariableType hT hG hby (by omega) hM2 hG.iat (fun h2 it2 n2 vs2 bc2 bs2 t c b1 b2 b3 b4 hG2 hA2 _ => ⟨md, hG2.rmd, hG2.kmd, rw 5, hG2.row (by omega), hG2.krow (by omega), hG2.addA (by omega) hA2 (by simp; omega) hM2 (fun h8 it8 n8 vs8 bc8 bs8 hG8 hA8 _ => ?_)⟩)⟩
  refine rdG_readExpression hT hG8 hby (by omega) (fun j hj => hI.z j (by omega)) (fun h' ν' q c1 c2 c3 c4 c5 hG9 _ => ?_)
  refine hQ h' it8 n8 vs8 ν' q bc8 bs8 (by omega) hG9 ((hI.ex (a' := q) (ν' := ν') (by omega) (fun j hj => c3 j (by omega)) c4).x5 (p := a + 2) (e := q) (b' := q) hA8 (by simp) (by omega) (by omega) c1 (Nat.le_refl q) (Nat.le_refl q) ?_ c5 (fun en hm => ?_)) (fun j => ?_)
  · simp only [List.nil_append, List.cons_append, List.getD_cons_zero, List.getD_cons_succ, Z_of32, hG2.iat]
  · unfold mp5
    simp only [List.nil_append, List.cons_append, List.getD_cons_zero, List.getD_cons_succ, Z_of32, hG.iat, hG2.iat]
    exact ⟨by omega, by omega, b2, b3, b4, fun e => by omega, fun _ => hm⟩
  · by_cases e : j = 5
    · rw [e, hA8.1]
      omega
    · rw [(hA8.2.1 j e).1]
      omega
theorem rdG_readExport {Qr : xb_H → Nat → Nat → Prop} (hT : rd_T h0 rd op md rc rs Qt) (hG : rd_G h0 h rd op md cd nt im N M rc rs rw cb it n vs ν iv a l bc bs) (hI : md_I N cb n vs ν iv a) (hM : 2 * N + 20 ≤ M) (hM2 : M ≤ 1000000)
    (hQ : ∀ (h' : xb_H) (it' n' : Nat → Nat) (vs' : Nat → Nat → Int64) (q bc' bs' : Nat), a < q → rd_G h0 h' rd op md cd nt im N M rc rs rw cb it' n' vs' ν iv q l bc' bs' → md_I N cb n' vs' ν iv q → (∀ j, n j ≤ n' j) → Qr h' bc' bs') : w_Reader_readExport rd h bc bs Qr Qt := by
  unfold w_Reader_readExport
  have hal := hG.al
  have hn := hI.nk (k := 6) (by omega)
  refine ⟨hG.krd, fun v2 e2 => rdG_readName hT hG (fun r4 h3 q3 b1 b2 b3 hG3 _ v5 e5 => ?_)⟩
  have ev2 : v2.toInt = a := by rw [e2]; exact hG.iat
  have ev5 : v5.toInt = q3 - r4.toInt := by rw [e5, z_sub, hG3.iat]; omega
  refine ⟨md, hG3.rmd, hG3.kmd, rw 6, hG3.row (by omega), hG3.krow (by omega), hG3.addA (by omega) (xr_A.rf 6 n vs) (by simp; omega) hM2 (fun h4 it4 n4 vs4 bc4 bs4 hG4 hA4 _ => ?_)⟩
  refine ⟨md, hG4.rmd, hG4.kmd, rw 6, hG4.row (by omega), rdG_byteUpTo hT hG4 (fun r16 h15 c1 c2 c3 hG15 _ => ⟨hG15.krow (by omega), hG15.addA (by omega) hA4 (by simp; omega) hM2 (fun h5 it5 n5 vs5 bc5 bs5 hG5 hA5 _ => ?_)⟩)⟩
  simp only [Int32.reduceToInt] at c2
  refine ⟨md, hG5.rmd, hG5.kmd, rw 6, hG5.row (by omega), rdG_count hT hG5 (fun r24 h23 q23 d1 d2 hG23 _ => ⟨hG23.krow (by omega), hG23.addA (by omega) hA5 (by simp; omega) hM2 (fun h6 it6 n6 vs6 bc6 bs6 hG6 hA6 _ => ?_)⟩)⟩
  refine ⟨md, hG6.rmd, hG6.kmd, rw 6, hG6.row (by omega), hG6.krow (by omega), hG6.addA (by omega) hA6 (by simp; omega) hM2 (fun h7 it7 n7 vs7 bc7 bs7 hG7 hA7 _ => ?_)⟩
  refine ⟨md, hG7.rmd, hG7.kmd, rw 6, hG7.row (by omega), hG7.krow (by omega), hG7.addA (by omega) hA7 (by simp; omega) hM2 (fun h8 it8 n8 vs8 bc8 bs8 hG8 hA8 _ => ?_)⟩
  refine hQ h8 it8 n8 vs8 q23 bc8 bs8 (by omega) hG8 ((hI.at (a' := q23) (by omega)).a6 hA8 (by simp) (by omega) ?_).cl (fun j => ?_)
  · unfold mp6
    simp only [List.nil_append, List.cons_append, List.getD_cons_zero, List.getD_cons_succ, Z_of32, Z_low, ev2, ev5]
    exact ⟨by omega, by omega, c1, c2, by omega, by omega, by omega, b1, by omega⟩
  · by_cases e : j = 6
    · rw [e, hA8.1]
      omega
    · rw [(hA8.2.1 j e).1]
      omega
end RDN
