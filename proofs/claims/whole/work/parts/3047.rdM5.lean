-- the reader: sections, the whole module
section RDQ
variable {h0 h : xb_H} {rd op md cd nt im N M rc rs : Nat} {rw : Nat → Nat} {cb : Nat → Int32} {it n : Nat → Nat} {vs : Nat → Nat → Int64} {ν iv : Nat → Int32} {a : Nat} {l : Int} {bc bs : Nat} {Qt : String → xb_H → Nat → Nat → Prop}
theorem md_Q.up {n' : Nat → Nat} (h : md_Q n iv) (hm : ∀ j, n j ≤ n' j) : md_Q n' iv := by
  obtain ⟨h1, h2, h3, h4⟩ := h
  have m2 := hm 2
  have m3 := hm 3
  have m4 := hm 4
  have m5 := hm 5
  exact ⟨by omega, by omega, by omega, by omega⟩
theorem md_Z.q (h : md_Z n iv) : md_Q n iv := ⟨by have := h.1; omega, by have := h.2.1; omega, by have := h.2.2.1; omega, by have := h.2.2.2; omega⟩
/-- how far the reading of a module is, for all sections -/
def rd_P (s : Nat) (N : Nat) (cb : Nat → Int32) (n : Nat → Nat) (vs : Nat → Nat → Int64) (ν iv : Nat → Int32) (a : Nat) : Prop := md_I N cb n vs ν iv a ∧ md_Q n iv ∧ (s ≤ 2 → md_Z n iv)
theorem rdG_readSection_L45 {Qr : xb_H → Nat → Nat → Prop} {x1 : Int32} {x3 : Int64} {s t a0 : Nat} (hst : s ≤ t) (hs2 : s = 2 → t ≤ 2) (hT : rd_T h0 rd op md rc rs Qt) (hby : ∀ j, -128 ≤ (cb j).toInt ∧ (cb j).toInt ≤ 127) (hM : 2 * N + 20 ≤ M) (hM2 : M ≤ 1000000) (hx1 : x1.toInt = s)
    (hQ : ∀ (h' : xb_H) (it' n' : Nat → Nat) (vs' : Nat → Nat → Int64) (ν' iv' : Nat → Int32) (q bc' bs' : Nat), a0 ≤ q → rd_G h0 h' rd op md cd nt im N M rc rs rw cb it' n' vs' ν' iv' q N bc' bs' → rd_P t N cb n' vs' ν' iv' q → Qr h' bc' bs') :
    ∀ (m : Nat) (x5 : Int64) (h : xb_H) (it n : Nat → Nat) (vs : Nat → Nat → Int64) (ν iv : Nat → Int32) (a bc bs : Nat), rd_G h0 h rd op md cd nt im N M rc rs rw cb it n vs ν iv a l bc bs → a0 ≤ a → rd_P t N cb n vs ν iv a → l - a ≤ m → w_Reader_readSection_L45 Qr Qt (m + 1) rd x1 x3 x5 h bc bs
  | m, x5, h, it, n, vs, ν, iv, a, bc, bs, hG, ha0, ⟨hI, hq, hz⟩, hm => by
    have hal := hG.al
    have nxt : ∀ (h' : xb_H) (it' n' : Nat → Nat) (vs' : Nat → Nat → Int64) (ν' iv' : Nat → Int32) (q bc' bs' : Nat), a < q → rd_G h0 h' rd op md cd nt im N M rc rs rw cb it' n' vs' ν' iv' q l bc' bs' → rd_P t N cb n' vs' ν' iv' q → w_Reader_readSection_L261 (w_Reader_readSection_L45 Qr Qt m) Qr Qt rd x1 x3 x5 h' bc' bs' := by
      intro h' it' n' vs' ν' iv' q bc' bs' g1 g2 g3 v1 _
      have hal' := g2.al
      match m, hm with
      | 0, hm => omega
      | m + 1, hm => exact rdG_readSection_L45 hst hs2 hT hby hM hM2 hx1 hQ m v1 h' it' n' vs' ν' iv' q bc' bs' g2 (by omega) g3 (by omega)
    have fl : ∀ (c p : Int32) (Qx : xb_H → Nat → Nat → Prop), ∃ b : Nat, xb_r h rd 0 = some b ∧ xb_k h b = 3 ∧ w_StackModule_fail b c p h bc bs Qx Qt := fun c p Qx => ⟨md, hG.rmd, hG.kmd, sp_fail hT hG.X hG.c hG.b⟩
    have lit : ∀ k : Int32, x1 = k ↔ (s : Int) = k.toInt := fun k => by rw [z_eq, hx1]
    unfold w_Reader_readSection_L45
    refine ⟨fun _ => ⟨hG.krd, fun _ => ?_, fun _ => fl _ _ _⟩, fun _ => ⟨fun e => ?_, fun e => ?_, fun e => ?_, fun e => ?_, fun e => ?_, fun e => ?_, fun e => ?_, fun e => ?_, fun e => ?_, fun e => ?_, fun e => ?_, fun e0 e1 e2 e3 e4 e5 e6 e7 e8 e9 e10 => ?_⟩⟩
    · unfold w_Reader_readSection_L294
      refine ⟨hG.krd, cd, hG.cdr.1, hG.cdr.2.1, fun h4 e4 => ?_⟩
      subst e4
      rw [hG.cdr.2.2]
      have hN := z_nI (n := N) (by omega)
      have hG4 := hG.lim (v := nI N) (by omega) (by omega)
      rw [hN] at hG4
      exact hQ _ it n vs ν iv a bc bs ha0 hG4 ⟨hI, hq, hz⟩
    · refine ⟨hG.krd, rdG_readName hT hG (fun r h' q b1 b2 b3 hG' _ h12 e12 => ?_)⟩
      subst e12
      have el := hG'.ilim
      exact nxt _ it n vs ν iv l.toNat bc bs (by omega) (hG'.at (by omega) (by omega)) ⟨(hI.at (by omega)).cl, hq, hz⟩
    · exact ⟨hG.krd, rdG_readType hT hG hI hby hM hM2 (fun h' it' n' vs' q bc' bs' g1 g2 g3 g4 _ => nxt h' it' n' vs' ν iv q bc' bs' g1 g2 ⟨g3, ⟨by rw [g4 2 (by omega)]; exact hq.1, by rw [g4 3 (by omega)]; exact hq.2.1, by rw [g4 4 (by omega)]; exact hq.2.2.1, by rw [g4 5 (by omega)]; exact hq.2.2.2⟩, fun h9 => ⟨by rw [g4 2 (by omega)]; exact (hz h9).1, by rw [g4 3 (by omega)]; exact (hz h9).2.1, by rw [g4 4 (by omega)]; exact (hz h9).2.2.1, by rw [g4 5 (by omega)]; exact (hz h9).2.2.2⟩⟩)⟩
    · rw [lit] at e
      simp only [Int32.reduceToInt] at e
      exact ⟨hG.krd, rdG_readImport hT hG hI (hz (hs2 (by omega))) hby hM hM2 (fun h' it' n' vs' iv' q bc' bs' g1 g2 g3 g4 _ => nxt h' it' n' vs' ν iv' q bc' bs' g1 g2 ⟨g3, g4.q, fun _ => g4⟩)⟩
    · rw [lit] at e
      simp only [Int32.reduceToInt] at e
      have hn2 := hI.nk (k := 2) (by omega)
      refine ⟨hG.krd, md, hG.rmd, hG.kmd, rw 2, hG.row (by omega), hG.krow (by omega), hG.addA (by omega) (xr_A.rf 2 n vs) (by simp; omega) hM2 (fun h1 it1 n1 vs1 bc1 bs1 hG1 hA1 _ => ?_)⟩
      refine ⟨md, hG1.rmd, hG1.kmd, rw 2, hG1.row (by omega), rdG_count hT hG1 (fun r33 h2 q2 b1 b2 hG2 _ => ⟨hG2.krow (by omega), hG2.addA (by omega) hA1 (by simp; omega) hM2 (fun h3 it3 n3 vs3 bc3 bs3 hG3 hA3 _ => ?_)⟩)⟩
      refine nxt h3 it3 n3 vs3 ν iv q2 bc3 bs3 (by omega) hG3 ⟨((hI.at (a' := q2) (by omega)).a2 hA3 (by simp) (by omega) ?_).cl, hq.up (fun j => ?_), fun h9 => by omega⟩
      · unfold mp2
        simp only [List.nil_append, List.cons_append, List.getD_cons_zero, List.getD_cons_succ, Z_of32, Z_low, hG.iat]
        exact ⟨by omega, by omega, by omega, by omega⟩
      · by_cases e : j = 2
        · rw [e, hA3.1]
          omega
        · rw [(hA3.2.1 j e).1]
          omega
    · rw [lit] at e
      simp only [Int32.reduceToInt] at e
      exact ⟨hG.krd, rdG_readTable hT hG hI hM hM2 (fun h' it' n' vs' q bc' bs' g1 g2 g3 g4 _ => nxt h' it' n' vs' ν iv q bc' bs' g1 g2 ⟨g3, hq.up g4, fun h9 => by omega⟩)⟩
    · rw [lit] at e
      simp only [Int32.reduceToInt] at e
      have hn4 := hI.nk (k := 4) (by omega)
      by_cases haN : a < N
      · refine ⟨hG.krd, md, hG.rmd, hG.kmd, rw 4, hG.row (by omega), rdG_readLimits (p := a) hT hG (by omega) (by omega) hM2 hG.iat haN (fun h' it' n' vs' q bc' bs' L c1 c2 hG4 hA hL hp _ => ?_)⟩
        refine nxt h' it' n' vs' ν iv q bc' bs' (by omega) hG4 ⟨((hI.at (a' := q) (by omega)).a4 hA hL (by omega) (hp _)).cl, hq.up (fun j => ?_), fun h9 => by omega⟩
        by_cases e : j = 4
        · rw [e, hA.1]
          omega
        · rw [(hA.2.1 j e).1]
          omega
      · refine ⟨hG.krd, md, hG.rmd, hG.kmd, rw 4, hG.row (by omega), ?_⟩
        unfold w_Reader_readLimits
        exact ⟨hG.krd, rdG_byteUpTo hT hG (fun r3 h2 b1 b2 b3 hG2 _ => by omega)⟩
    · rw [lit] at e
      simp only [Int32.reduceToInt] at e
      exact ⟨hG.krd, rdG_readVariable hT hG hI hq.2.2.2 hby hM hM2 (fun h' it' n' vs' ν' q bc' bs' g1 g2 g3 g4 _ => nxt h' it' n' vs' ν' iv q bc' bs' g1 g2 ⟨g3, hq.up g4, fun h9 => by omega⟩)⟩
    · rw [lit] at e
      simp only [Int32.reduceToInt] at e
      exact ⟨hG.krd, rdG_readExport hT hG hI hM hM2 (fun h' it' n' vs' q bc' bs' g1 g2 g3 g4 _ => nxt h' it' n' vs' ν iv q bc' bs' g1 g2 ⟨g3, hq.up g4, fun h9 => by omega⟩)⟩
    · rw [lit] at e
      simp only [Int32.reduceToInt] at e
      refine ⟨hG.krd, md, hG.rmd, hG.kmd, fun h60 e60 => ?_⟩
      subst e60
      have hrd3 : (va_up (xb_i h md) 16 (xb_i h rd 3) 16).toInt = a := by rw [xh_up, if_pos rfl]; exact hG.iat
      have hG1 := hG.mdI (k := 16) (v := xb_i h rd 3) (fun h9 => by omega)
      refine ⟨md, hG1.rmd, sp_Reader_count hT hG1.X hG1.s hG1.c hG1.b (fun r63 v63 f1 f2 _ => ?_)⟩
      have hG2 := hG1.at (v := v63) (q := v63.toInt.toNat) (by omega) (by omega)
      refine ⟨hG2.kmd, fun h65 e65 => ?_⟩
      subst e65
      exact nxt _ it n vs ν iv v63.toInt.toNat bc bs (by omega) (hG2.mdI (fun h9 => by rw [xh_up, if_neg (by omega), xh_iI, if_neg hG.X.rd, xh_iI, if_pos rfl, hrd3] at h9; omega)) ⟨(hI.at (by omega)).cl, hq, hz⟩
    · rw [lit] at e
      simp only [Int32.reduceToInt] at e
      exact ⟨hG.krd, rdG_readElements hT hG hI hby hM hM2 (fun h' it' n' vs' ν' q bc' bs' g1 g2 g3 g4 _ => nxt h' it' n' vs' ν' iv q bc' bs' g1 g2 ⟨g3, hq.up g4, fun h9 => by omega⟩)⟩
    · rw [lit] at e
      simp only [Int32.reduceToInt] at e
      exact ⟨hG.krd, rdG_readBody hT hG hI hby hM hM2 (fun h' it' n' vs' ν' q bc' bs' g1 g2 g3 g4 _ => nxt h' it' n' vs' ν' iv q bc' bs' g1 g2 ⟨g3, hq.up g4, fun h9 => by omega⟩)⟩
    · rw [lit] at e0 e1 e2
      simp only [Int32.reduceToInt] at e0 e1 e2
      exact ⟨hG.krd, rdG_readData hT hG hI hby hM hM2 (fun h' it' n' vs' ν' q bc' bs' g1 g2 g3 g4 _ => nxt h' it' n' vs' ν' iv q bc' bs' g1 g2 ⟨g3, hq.up g4, fun h9 => by omega⟩)⟩
theorem rdG_readSection {Qr : xb_H → Nat → Nat → Prop} {x1 : Int32} {s t : Nat} (hst : s ≤ t) (hs2 : s = 2 → t ≤ 2) (hT : rd_T h0 rd op md rc rs Qt) (hG : rd_G h0 h rd op md cd nt im N M rc rs rw cb it n vs ν iv a l bc bs) (hP : rd_P t N cb n vs ν iv a) (hby : ∀ j, -128 ≤ (cb j).toInt ∧ (cb j).toInt ≤ 127) (hM : 2 * N + 20 ≤ M) (hM2 : M ≤ 1000000) (hx1 : x1.toInt = s)
    (hQ : ∀ (h' : xb_H) (it' n' : Nat → Nat) (vs' : Nat → Nat → Int64) (ν' iv' : Nat → Int32) (q bc' bs' : Nat), a < q → rd_G h0 h' rd op md cd nt im N M rc rs rw cb it' n' vs' ν' iv' q N bc' bs' → rd_P t N cb n' vs' ν' iv' q → Qr h' bc' bs') : w_Reader_readSection rd x1 h bc bs Qr Qt := by
  unfold w_Reader_readSection
  have hal := hG.al
  obtain ⟨hI, hq, hz⟩ := hP
  refine ⟨hG.krd, rdG_count hT hG (fun r3 h2 q2 b1 b2 hG2 _ => sp_Reader_limitTo hT hG2.X hG2.s hG2.c hG2.b (fun v c1 c2 c3 _ => ?_))⟩
  have hG4 := hG2.lim (v := v) (by omega) (by omega)
  obtain ⟨h4, e4⟩ : ∃ h4, h4 = xb_I h2 rd 4 v := ⟨_, rfl⟩
  rw [← e4] at hG4 ⊢
  have L41 : ∀ (y : Int64) (h5 : xb_H) (q : Nat), q2 ≤ q → rd_G h0 h5 rd op md cd nt im N M rc rs rw cb it n vs ν iv q v.toInt bc bs → w_Reader_readSection_L41 Qr Qt rd x1 y h5 bc bs := by
    intro y h5 q g1 g2
    unfold w_Reader_readSection_L41
    exact ⟨(v.toInt - q).toNat + 1, rdG_readSection_L45 (a0 := a + 1) hst hs2 hT hby hM hM2 hx1 (fun h' it' n' vs' ν' iv' q' bc' bs' f1 => hQ h' it' n' vs' ν' iv' q' bc' bs' (by omega)) _ 0 h5 it n vs ν iv q bc bs g2 (by omega) ⟨(hI.at (by omega)).cl, hq, hz⟩ (by omega)⟩
  have L23 : ∀ y : Int32, w_Reader_readSection_L23 Qr Qt rd x1 y h4 bc bs := by
    intro y
    unfold w_Reader_readSection_L23
    exact ⟨fun _ => L41 _ h4 q2 (Nat.le_refl q2) hG4, fun _ => ⟨hG4.krd, rdG_count hT hG4 (fun r4 h5 q5 d1 d2 hG5 _ => L41 _ h5 q5 (by omega) hG5)⟩⟩
  unfold w_Reader_readSection_L22
  exact ⟨fun _ => L23 0, fun _ => ⟨fun _ => L23 0, fun _ => L23 1⟩⟩
/-- what holds of a module that was read to its end -/
def md_D (N : Nat) (cb : Nat → Int32) (n : Nat → Nat) (vs : Nat → Nat → Int64) (ν iv : Nat → Int32) : Prop := md_I N cb n vs ν iv N ∧ md_Q n iv ∧ (n 9 : Int) * 2 + 5 * (2 * (iv 0).toInt) = 5 * n 2
theorem rdG_readAll_L90 {Qr : xb_H → Nat → Nat → Prop} (hT : rd_T h0 rd op md rc rs Qt) (hby : ∀ j, -128 ≤ (cb j).toInt ∧ (cb j).toInt ≤ 127) (hM : 2 * N + 20 ≤ M) (hM2 : M ≤ 1000000)
    (hQ : ∀ (h' : xb_H) (it' n' : Nat → Nat) (vs' : Nat → Nat → Int64) (ν' iv' : Nat → Int32) (q bc' bs' : Nat), rd_G h0 h' rd op md cd nt im N M rc rs rw cb it' n' vs' ν' iv' q N bc' bs' → md_D N cb n' vs' ν' iv' → Qr h' bc' bs') :
    ∀ (m : Nat) (x2 x3 : Int32) (h : xb_H) (it n : Nat → Nat) (vs : Nat → Nat → Int64) (ν iv : Nat → Int32) (a bc bs : Nat), rd_G h0 h rd op md cd nt im N M rc rs rw cb it n vs ν iv a N bc bs → 0 ≤ x2.toInt → 0 ≤ x3.toInt → x3.toInt + 8 ≤ a → rd_P x2.toInt.toNat N cb n vs ν iv a → N - x3.toInt ≤ m → w_Reader_readAll_L90 Qr Qt (m + 1) rd x2 x3 h bc bs
  | m, x2, x3, h, it, n, vs, ν, iv, a, bc, bs, hG, hx2, hx3, hxa, ⟨hI, hq, hz⟩, hm => by
    have hal := hG.al
    have hNI := z_nI (n := N) (by omega)
    have hr9 : xr_row h (rw 9) 5 (n 9) (it 9) := hG.rowOk (k := 9) (by omega)
    have hr2 : xr_row h (rw 2) 2 (n 2) (it 2) := hG.rowOk (k := 2) (by omega)
    obtain ⟨-, -, ⟨m9, hm9⟩, ⟨m2, hm2⟩⟩ := hI.d
    have him := hG.2.2.2.2.2.2.1
    have hiv0 : 0 ≤ (iv 0).toInt := by
      have := hI.cnt 0 (by omega)
      omega
    have fin : (a : Int) = N → w_Reader_readAll_L198 Qr Qt rd h bc bs := by
      intro ha
      unfold w_Reader_readAll_L198 w_Reader_readAll_L245
      refine ⟨hG.krd, md, hG.rmd, hG.kmd, rw 9, hG.row (by omega), hG.krow (by omega), sp_Row_lines hr9 (by omega) (fun r7 e7 _ => ⟨md, hG.rmd, hG.kmd, rw 2, hG.row (by omega), hG.krow (by omega), sp_Row_lines hr2 (by omega) (fun r13 e13 _ => ⟨md, hG.rmd, hG.kmd, im, him.1, him.2.1, by rw [him.2.2.1, z_in]; decide, fun e => ?_, fun _ => ⟨md, hG.rmd, cd, hG.cdr.1, hG.cdr.2.1, hG.kmd, sp_fail hT hG.X hG.c hG.b⟩⟩)⟩)⟩
      have hn2 := hI.nk (k := 2) (by omega)
      have haN : a = N := by omega
      subst haN
      refine hQ h it n vs ν iv a bc bs hG ⟨hI, hq, ?_⟩
      rw [z_eq, e7, z_sub, e13, him.2.2.2.2] at e
      have hq0 := hq.1
      rw [hm9, hm2] at *
      rw [Nat.mul_div_cancel_left m9 (by omega), Nat.mul_div_cancel_left m2 (by omega)] at e
      omega
    unfold w_Reader_readAll_L90
    refine ⟨hG.krd, cd, hG.cdr.1, hG.cdr.2.1, fun e => ?_, fun e => ⟨cd, hG.cdr.1, hG.cdr.2.1, fun e1 => ?_, fun e1 => ?_⟩⟩
    · rw [hG.cdr.2.2, z_le, hNI] at e
      omega
    · rw [hG.cdr.2.2, z_le, hNI, hG.iat] at e1
      exact fin (by omega)
    · rw [hG.cdr.2.2, z_le, hNI] at e
      rw [hG.cdr.2.2, z_le, hNI, hG.iat] at e1
      refine ⟨cd, hG.cdr.1, hG.cdr.2.1, by rw [z_in, hG.iat, hG.cdr.2.2]; omega, fun v11 e11 => ?_⟩
      have h11 : 0 ≤ v11.toInt ∧ v11.toInt < 256 := by rw [e11, z_255]; omega
      have L169 : (v11.toInt = 0 ∨ x2.toInt < v11.toInt) → w_Reader_readAll_L169 (w_Reader_readAll_L90 Qr Qt m) Qr Qt rd x2 x3 v11 h bc bs := by
        intro hv
        unfold w_Reader_readAll_L169
        refine fun v1 e1 => ⟨hG.krd, fun h3 e3 => ?_⟩
        subst e3
        have ev1 : v1.toInt = max x2.toInt v11.toInt := by
          rw [e1]
          split <;> (rename_i h9; rw [z_lt] at h9; omega)
        have eat : (xb_i h rd 3 + 1).toInt = (a + 1 : Nat) := by rw [z_add, hG.iat]; simp only [Int32.reduceToInt]; omega
        refine rdG_readSection (s := v11.toInt.toNat) (t := v1.toInt.toNat) (by omega) (by omega) hT (hG.at eat (by omega)) ⟨(hI.at (by omega)).cl, hq, fun h9 => hz (by omega)⟩ hby hM hM2 (by omega) (fun h' it' n' vs' ν' iv' q bc' bs' g1 g2 g3 _ => ?_)
        have e31 : (x3 + 1).toInt = x3.toInt + 1 := by rw [z_add]; simp only [Int32.reduceToInt]; omega
        have hal' := g2.al
        obtain ⟨g31, g32, g33⟩ := g3
        match m, hm with
        | 0, hm => omega
        | m + 1, hm => exact rdG_readAll_L90 hT hby hM hM2 hQ m v1 (x3 + 1) h' it' n' vs' ν' iv' q bc' bs' g2 (by omega) (by omega) (by omega) ⟨g31, g32, fun h9 => g33 (by omega)⟩ (by omega)
      unfold w_Reader_readAll_L145
      refine ⟨fun e2 => ⟨fun e3 => L169 (.inl (by rw [e3]; rfl)), fun e3 => ⟨fun e4 => L169 (.inr (by rw [z_lt] at e4; exact e4)), fun _ => ⟨hG.krd, md, hG.rmd, hG.kmd, sp_fail hT hG.X hG.c hG.b⟩⟩⟩, fun _ => ⟨md, hG.rmd, hG.kmd, sp_fail hT hG.X hG.c hG.b⟩⟩
end RDQ
