-- the reference: a module that was read, read again
/-- where its bytes begin and end, the bytes, how many entries the sections have, where they stand -/
abbrev zM : Type := Nat × Nat × (Nat → Int32) × (Nat → Nat) × (Nat → Nat → Nat)
def qb (D : zM) : Nat := D.1
def qe (D : zM) : Nat := D.2.1
def qc (D : zM) : Nat → Int32 := D.2.2.1
def qt (D : zM) : Nat → Nat := D.2.2.2.1
def qp (D : zM) : Nat → Nat → Nat := D.2.2.2.2
/-- how many imports of a kind; where an import's kind stands; the i-th import of a kind among the first n -/
def iM (D : zM) (κ : Nat) : Nat := kcn (qc D) (qp D 2) κ (qt D 2)
def kpo (D : zM) (k : Nat) : Nat := qN (qc D) (qN (qc D) (qp D 2 k))
def ikx (D : zM) (κ : Nat) : Nat → Nat → Nat
  | 0, _ => 0
  | n + 1, i => if (ub (qc D) (kpo D n)).toInt = κ ∧ kcn (qc D) (qp D 2) κ n = i then n else ikx D κ n i
/-- a type: its parameters, its result -/
def tPa (D : zM) (t : Nat) : Nat := cE (qc D) (qp D 1 t + 1)
def tPn (D : zM) (t : Nat) : Nat := cV (qc D) (qp D 1 t + 1)
def tRn (D : zM) (t : Nat) : Nat := cV (qc D) (tPa D t + tPn D t)
def tRt (D : zM) (t : Nat) : Int := if tRn D t = 0 then 64 else (ub (qc D) (cE (qc D) (tPa D t + tPn D t))).toInt
/-- where a function's type and a variable's type stand -/
def fpo (D : zM) (f : Nat) : Nat := if f < iM D 0 then kpo D (ikx D 0 (qt D 2) f) + 1 else qp D 3 (f - iM D 0)
def fty (D : zM) (f : Nat) : Nat := cV (qc D) (fpo D f)
def vpo (D : zM) (g : Nat) : Nat := if g < iM D 3 then kpo D (ikx D 3 (qt D 2) g) + 1 else qp D 6 (g - iM D 3)
def vty (D : zM) (g : Nat) : Int := (ub (qc D) (vpo D g)).toInt
def vmu (D : zM) (g : Nat) : Int := (ub (qc D) (vpo D g + 1)).toInt
def mdH (A : Nat → Nat) (h : xb_H) (F : Nat → Nat → Int32) (m : Nat) (D : zM) : Prop :=
  m < 64 ∧ (F (A 6) m).toInt = qb D ∧ (F (A 7) m).toInt = (qe D : Int) - qb D ∧ (∀ j, qb D ≤ j → j < qe D → F (A 3) j = qc D j) ∧
  (∀ s, s < 12 → (F (A 9) (12 * m + s)).toInt = qt D s ∧ ∃ f : Nat, (F (A 8) (12 * m + s)).toInt = f ∧ (0 < qt D s → f + qt D s ≤ xb_n h (A 11) ∧ f + qt D s ≤ 16384) ∧ ∀ k, k < qt D s → (F (A 11) (f + k)).toInt = qp D s k) ∧
  ∀ κ, κ < 4 → (F (A 10) (4 * m + κ)).toInt = iM D κ
def mdR (D : zM) : Prop := (∀ j, -128 ≤ (qc D j).toInt ∧ (qc D j).toInt ≤ 127) ∧ qb D ≤ qe D ∧ qe D ≤ 12000 ∧ (∀ s, s < 12 → qt D s ≤ 12000 ∧ ∀ k, k < qt D s → qb D ≤ qp D s k ∧ ∃ q, RS (qc D) s (qp D s k) q ∧ q ≤ qe D) ∧ qt D 10 = qt D 3
def mX (own : Nat → Nat) (mm : Nat) (A : Nat → Nat) (h : xb_H) (F : Nat → Nat → Int32) (m : Nat) (D : zM) : Prop := mB own mm A h ∧ mdH A h F m D ∧ mdR D
/-- numbers that reading again may change -/
def vg (v v' : Nat → Int32) : Prop := ∀ j, j ≠ 14 → j ≠ 15 → j ≠ 16 → j ≠ 17 → j ≠ 18 → v' j = v j
/-- read again, to p -/
def vk (v v' : Nat → Int32) (D : zM) (p : Nat) : Prop := vg v v' ∧ (v' 14).toInt = qb D ∧ rdP v' (qb D) p (qe D) ∧ v' 17 = 0
section MX1
variable {own : Nat → Nat} {mm m b e p q st N : Nat} {A : Nat → Nat} {h : xb_H} {F : Nat → Nat → Int32} {v v' v2 cb : Nat → Int32} {D : zM}
theorem vg.rf : vg v v := fun _ _ _ _ _ _ => rfl
theorem vg.tr (h1 : vg v v') (h2 : vg v' v2) : vg v v2 := fun j a b c d f => (h2 j a b c d f).trans (h1 j a b c d f)
theorem ro.vg {p' : Nat} (h1 : ro v v' p p' e) : vg v v' := fun j _ b _ d f => h1.1 j b d f
theorem m_count_k {x : Int64} {Qr : Int64 → xb_H → Prop} (hs : rdH mm st N b e cb h F) (hp : rdP v b p e) (hz : v 17 = 0) (hc : rC cb p = some (q, x)) (hq : q ≤ e) (hQ : ∀ v', ro v v' p q e → v' 17 = 0 → Qr x (mH h F mm v')) : w_M_count mm (mH h F mm v) Qr :=
  m_count hs hp (fun r v' p' o f g => by
    have z := g hz ⟨q, x, hc, hq⟩
    obtain ⟨e1, e2⟩ := rC_in (f z) hc
    subst e1 e2
    exact hQ v' o z)
theorem m_next_k {Qr : Int32 → xb_H → Prop} (hs : rdH mm st N b e cb h F) (hp : rdP v b p e) (hz : v 17 = 0) (hq : p < e) (hQ : ∀ v', ro v v' p (p + 1) e → v' 17 = 0 → Qr (ub cb p) (mH h F mm v')) : w_M_next mm (mH h F mm v) Qr :=
  m_next hs hp (fun r v' p' o f g => by
    have z := g hz ⟨p + 1, _, ⟨rfl, rfl⟩, hq⟩
    obtain ⟨e1, e2⟩ := f z
    subst e1 e2
    exact hQ v' o z)
/-- a byte, whatever the code is -/
theorem m_next_d {Qr : Int32 → xb_H → Prop} (hs : rdH mm st N b e cb h F) (hp : rdP v b p e) (hq : p < e) (hQ : ∀ v', ro v v' p (p + 1) e → v' 17 = v 17 → Qr (ub cb p) (mH h F mm v')) : w_M_next mm (mH h F mm v) Qr := by
  obtain ⟨s1, s2, s3, s4, s5, s6, s7, s8⟩ := id hs
  obtain ⟨p1, p2, p3, p4⟩ := id hp
  unfold w_M_next
  rw [mH_i]
  refine ⟨s1, fun hl => ⟨st, s2, s3, ?_, fun v6 e6 h7 e7 => ?_⟩, fun hl => ?_⟩
  · rw [z_in, p1]
    show _ ∧ (p : Int) < xb_n h st
    omega
  · rw [mH_I] at e7
    rw [mH_o s6, z_cl, p1] at e6
    subst e7
    have e8 : v6 = ub cb p := by
      rw [e6]
      unfold ub
      rw [← s8 p p3 hq]
      rfl
    rw [e8]
    refine hQ _ ⟨fun j h1 _ _ => by rw [xh_up, if_neg h1], ?_, by omega, by omega, fun h9 => by rw [xh_up, if_neg (by omega)]; exact h9⟩ (by rw [xh_up, if_neg (by omega)])
    rw [xh_up, if_pos rfl]
    exact z_inc p1 (by omega)
  · rw [z_lt, p1, p2] at hl
    omega
theorem m_name_k {Qr : xb_H → Prop} (hs : rdH mm st N b e cb h F) (hp : rdP v b p e) (hz : v 17 = 0) (hc : rN cb p q) (hq : q ≤ e) (hQ : ∀ v', ro v v' p q e → v' 17 = 0 → Qr (mH h F mm v')) : w_M_name0 mm (mH h F mm v) Qr :=
  m_name hs hp (fun v' p' o f g => by
    have z := g hz ⟨q, hc, hq⟩
    have e1 := rN_f (f z) hc
    subst e1
    exact hQ v' o z)
theorem m_written_k {x1 x2 : Int32} {op : Nat} {Qr : xb_H → Prop} (hx : x1.toInt = op) (hs : rdH mm st N b e cb h F) (hp : rdP v b p e) (hz : v 17 = 0) (hc : rW cb (wk_sh op) p q) (hq : q ≤ e) (hQ : ∀ v', ro v v' p q e → v' 17 = 0 → Qr (mH h F mm v')) : w_M_written mm x1 x2 (mH h F mm v) Qr :=
  m_written hx hs hp (fun v' p' o f g => by
    have z := g hz ⟨q, hc, hq⟩
    have e1 := rW_f (f z) hc
    subst e1
    exact hQ v' o z)
/-- a count where something is wrong already -/
theorem m_count_d {Qr : Int64 → xb_H → Prop} (hs : rdH mm st N b e cb h F) (hp : rdP v b p e) (hz : v 17 ≠ 0) (hQ : ∀ v' p', ro v v' p p' e → p' ≤ p + 1 → v' 17 ≠ 0 → Qr 0 (mH h F mm v')) : w_M_count mm (mH h F mm v) Qr := by
  unfold w_M_count
  refine ⟨0 + 1, ?_⟩
  unfold w_M_count_L4
  refine ⟨fun h9 => absurd h9 (by decide), fun _ => ⟨hs.1, ?_⟩⟩
  have fin : ∀ (r : Int32) (v1 : Nat → Int32) (p1 : Nat), ro v v1 p p1 e → p1 ≤ p + 1 → v1 17 ≠ 0 → w_M_count_L45 (w_M_count_L4 Qr 0) Qr mm 0 0 r (mH h F mm v1) := fun r v1 p1 o1 hp1 hn => by
    unfold w_M_count_L45
    rw [mH_i]
    exact ⟨hs.1, fun h9 => absurd h9 hn, fun _ => hQ v1 p1 o1 hp1 hn⟩
  rcases Nat.lt_or_ge p e with hl | hl
  · refine m_next_d hs hp hl (fun v1 o1 e17 _ => ?_)
    have hn : v1 17 ≠ 0 := by rw [e17]; exact hz
    rw [mH_i]
    exact ⟨fun _ => fin _ v1 _ o1 (Nat.le_refl _) hn, fun h9 => absurd h9 hn⟩
  · refine m_next hs hp (fun r v1 p1 o1 f1 b1 _ => ?_)
    have hn : v1 17 ≠ 0 := o1.2.2.2.2 hz
    rw [mH_i]
    exact ⟨fun _ => fin _ v1 p1 o1 (by have := o1.2.2.2.1; omega) hn, fun h9 => absurd h9 hn⟩
theorem mX.rd (hX : mX own mm A h F m D) : rdH mm (A 3) 16384 (qb D) (qe D) (qc D) h F := by
  obtain ⟨hB, ⟨a1, a2, a3, a4, a5, a6⟩, b1, b2, b3, b4, b5⟩ := hX
  obtain ⟨g1, g2, -, g4⟩ := hB.g (k := 3) (kd := 100) (n := 16384) (by decide)
  exact ⟨hB.2.1, g1, g2, g4.elim (fun h => by omega) id, by omega, hB.nm (by decide), by omega, a4⟩
theorem mX.up (hX : mX own mm A h F m D) {a : Nat} {f : Nat → Int32} (ha : ∀ k, k ∈ [3, 6, 7, 8, 9, 10, 11] → A k ≠ a) : mX own mm A h (va_up F a f) m D := by
  obtain ⟨hB, ⟨a1, a2, a3, a4, a5, a6⟩, hR⟩ := hX
  refine ⟨hB, ⟨a1, ?_, ?_, fun j j1 j2 => ?_, fun s hs => ?_, fun κ hκ => ?_⟩, hR⟩
  · rw [xh_up, if_neg (ha 6 (by decide))]; exact a2
  · rw [xh_up, if_neg (ha 7 (by decide))]; exact a3
  · rw [xh_up, if_neg (ha 3 (by decide))]; exact a4 j j1 j2
  · rw [xh_up F, if_neg (ha 9 (by decide)), xh_up F, if_neg (ha 8 (by decide)), xh_up F, if_neg (ha 11 (by decide))]; exact a5 s hs
  · rw [xh_up, if_neg (ha 10 (by decide))]; exact a6 κ hκ
theorem m_manyOf {x1 x2 : Int32} {s : Nat} {Qr : Int32 → xb_H → Prop} (hX : mX own mm A h F m D) (h1 : x1.toInt = m) (h2 : x2.toInt = s) (hs : s < 12) (hQ : ∀ r : Int32, r.toInt = qt D s → Qr r (mH h F mm v)) : w_M_manyOf mm x1 x2 (mH h F mm v) Qr := by
  obtain ⟨hB, ⟨a1, a2, a3, a4, a5, a6⟩, hR⟩ := hX
  obtain ⟨g1, g2, -, g4⟩ := hB.g (k := 9) (kd := 102) (n := 768) (by decide)
  have e12 := z_12 h1 h2 a1 hs
  unfold w_M_manyOf
  refine ⟨hB.2.1, A 9, g1, g2, ?_, hQ _ ?_⟩
  · rw [z_in, e12]
    show _ ∧ _ < ((xb_n h (A 9) : Nat) : Int)
    omega
  · rw [mH_o (hB.nm (by decide)), z_cl, e12, Int.toNat_natCast]
    exact (a5 s hs).1
theorem m_placeOf {x1 x2 x3 : Int32} {s k : Nat} {Qr : Int32 → xb_H → Prop} (hX : mX own mm A h F m D) (h1 : x1.toInt = m) (h2 : x2.toInt = s) (hs : s < 12) (h3 : x3.toInt = k) (hk : k < qt D s) (hQ : ∀ r : Int32, r.toInt = qp D s k → Qr r (mH h F mm v)) : w_M_placeOf mm x1 x2 x3 (mH h F mm v) Qr := by
  obtain ⟨hB, ⟨a1, a2, a3, a4, a5, a6⟩, hR⟩ := hX
  obtain ⟨g1, g2, -, -⟩ := hB.g (k := 11) (kd := 102) (n := 0) (by decide)
  obtain ⟨f1, f2, -, f4⟩ := hB.g (k := 8) (kd := 102) (n := 768) (by decide)
  have e12 := z_12 h1 h2 a1 hs
  obtain ⟨c1, f, c2, c3, c4⟩ := a5 s hs
  obtain ⟨c5, c6⟩ := c3 (by omega)
  have e8 : xb_i (mH h F mm v) (A 8) (12 * x1 + x2).toNatClampNeg = F (A 8) (12 * m + s) := by
    rw [mH_o (hB.nm (by decide)), z_cl, e12, Int.toNat_natCast]
  have e9 : (xb_i (mH h F mm v) (A 8) (12 * x1 + x2).toNatClampNeg + x3).toInt = (f + k : Nat) := by
    rw [e8]
    exact z_ad2 c2 h3 (by omega) (by omega)
  unfold w_M_placeOf
  refine ⟨hB.2.1, A 11, g1, A 8, f1, f2, ?_, g2, ?_, hQ _ ?_⟩
  · rw [z_in, e12]
    show _ ∧ _ < ((xb_n h (A 8) : Nat) : Int)
    omega
  · rw [z_in, e9]
    show _ ∧ _ < ((xb_n h (A 11) : Nat) : Int)
    omega
  · rw [z_cl (xb_i (mH h F mm v) (A 8) (12 * x1 + x2).toNatClampNeg + x3), e9, Int.toNat_natCast, mH_o (hB.nm (by decide))]
    exact c4 k hk
theorem m_go {x1 x2 : Int32} {Qr : xb_H → Prop} (hX : mX own mm A h F m D) (h1 : x1.toInt = m) (h2 : x2.toInt = p) (hp1 : qb D ≤ p) (hp2 : p ≤ qe D) (hQ : ∀ v', vg v v' → (v' 14).toInt = qb D → rdP v' (qb D) p (qe D) → v' 17 = v 17 → v' 18 = v 18 → Qr (mH h F mm v')) : w_M_go mm x1 x2 (mH h F mm v) Qr := by
  obtain ⟨hB, ⟨a1, a2, a3, a4, a5, a6⟩, b1, b2, b3, b4, b5⟩ := hX
  obtain ⟨g1, g2, -, g4⟩ := hB.g (k := 6) (kd := 102) (n := 64) (by decide)
  obtain ⟨f1, f2, -, f4⟩ := hB.g (k := 7) (kd := 102) (n := 64) (by decide)
  have c1 : x1.toNatClampNeg = m := by
    rw [z_cl, h1]
    omega
  unfold w_M_go
  refine ⟨hB.2.1, A 6, g1, g2, ?_, fun h5 e5 h6 e6 => ?_⟩
  · rw [z_in, h1]
    show _ ∧ _ < ((xb_n h (A 6) : Nat) : Int)
    omega
  · rw [mH_o (hB.nm (by decide)), c1, mH_I] at e5
    subst e5
    rw [mH_I] at e6
    subst e6
    refine ⟨A 7, f1, f2, ?_, fun h10 e10 => ?_⟩
    · rw [z_in, h1]
      show _ ∧ _ < ((xb_n h (A 7) : Nat) : Int)
      omega
    · rw [mH_o (hB.nm (by decide)), c1, mH_i, mH_I] at e10
      subst e10
      refine hQ _ (fun j j1 j2 j3 _ _ => by rw [xh_up, if_neg j3, xh_up, if_neg j2, xh_up, if_neg j1]) ?_ ⟨?_, ?_, hp1, hp2⟩ ?_ ?_
      · rw [xh_up, if_neg (by decide), xh_up, if_neg (by decide), xh_up, if_pos rfl]; exact a2
      · rw [xh_up, if_neg (by decide), xh_up, if_pos rfl]; exact h2
      · rw [xh_up, if_pos rfl, xh_up, if_neg (by decide), xh_up, if_pos rfl, z_add, a2, a3]
        omega
      · rw [xh_up, if_neg (by decide), xh_up, if_neg (by decide), xh_up, if_neg (by decide)]
      · rw [xh_up, if_neg (by decide), xh_up, if_neg (by decide), xh_up, if_neg (by decide)]
theorem z_4 {x y : Int32} {n s : Nat} (h1 : x.toInt = n) (h2 : y.toInt = s) (hn : n < 64) (hs : s < 4) : (4 * x + y).toInt = (4 * n + s : Nat) := by
  rw [z_add, Int32.toInt_mul, z_bm, h1, h2]
  simp only [Int32.reduceToInt]
  omega
theorem kcn_le {P2 : Nat → Nat} {κ : Nat} : ∀ n, kcn cb P2 κ n ≤ n := by
  intro n
  induction n with
  | zero => exact Nat.le_refl 0
  | succ n ih =>
    unfold kcn
    split <;> omega
theorem mdR.ib (hR : mdR D) {κ : Nat} : iM D κ ≤ 12000 := Nat.le_trans (kcn_le _) (hR.2.2.2.1 2 (by decide)).1
theorem m_total {x1 x2 : Int32} {κ : Nat} {Qr : Int64 → xb_H → Prop} (hX : mX own mm A h F m D) (h1 : x1.toInt = m) (h2 : x2.toInt = κ) (hκ : κ < 4) (hQ : ∀ r : Int64, r.toInt = (iM D κ + qt D (3 + κ) : Nat) → Qr r (mH h F mm v)) : w_M_total mm x1 x2 (mH h F mm v) Qr := by
  obtain ⟨hB, ⟨a1, a2, a3, a4, a5, a6⟩, hR⟩ := id hX
  obtain ⟨g1, g2, -, g4⟩ := hB.g (k := 10) (kd := 102) (n := 256) (by decide)
  have e4 := z_4 h1 h2 a1 hκ
  have ei : (xb_i (mH h F mm v) (A 10) (4 * x1 + x2).toNatClampNeg).toInt = iM D κ := by
    rw [mH_o (hB.nm (by decide)), z_cl, e4, Int.toNat_natCast]
    exact a6 κ hκ
  have bi := hR.ib (κ := κ)
  have bt := (hR.2.2.2.1 (3 + κ) (by omega)).1
  have K : ∀ (c : Int32), c.toInt = (3 + κ : Nat) → w_M_total_L40 Qr c x1 mm (xb_i (mH h F mm v) (A 10) (4 * x1 + x2).toNatClampNeg) (mH h F mm v) := fun c hc => by
    unfold w_M_total_L40
    refine ⟨hB.2.1, m_manyOf hX h1 hc (by omega) (fun r hr _ => hQ _ ?_)⟩
    rw [Z_of32, z_add, ei, hr]
    omega
  have hk : ∀ c : Int32, x2 = c ↔ (κ : Int) = c.toInt := fun c => by rw [z_eq, h2]
  unfold w_M_total
  refine ⟨hB.2.1, A 10, g1, g2, ?_, fun n0 => ⟨fun n1 => ⟨fun n2 => K 6 ?_, fun k => K 5 ?_⟩, fun k => K 4 ?_⟩, fun k => K 3 ?_⟩
  · rw [z_in, e4]
    show _ ∧ _ < ((xb_n h (A 10) : Nat) : Int)
    omega
  all_goals
    simp only [hk, Int32.reduceToInt] at *
    omega
theorem m_importAt {x1 x2 : Int32} {k : Nat} {Qr : Int32 → xb_H → Prop} (hX : mX own mm A h F m D) (hz : v 17 = 0) (h1 : x1.toInt = m) (h2 : x2.toInt = k) (hk : k < qt D 2) (hQ : ∀ v', vk v v' D (kpo D k + 1) → Qr (ub (qc D) (kpo D k)) (mH h F mm v')) : w_M_importAt mm x1 x2 (mH h F mm v) Qr := by
  have hs := hX.rd
  obtain ⟨hB, -, b1, b2, b3, b4, b5⟩ := id hX
  obtain ⟨c1, q, ⟨p1, p2, r1, r2, r3⟩, c3⟩ := (b4 2 (by decide)).2 k hk
  have hkp : kpo D k = p2 := by unfold kpo; rw [rN_E r1, rN_E r2]
  have hq2 : p2 + 1 ≤ q := by
    rcases r3 with ⟨-, x3, d8⟩ | ⟨-, -, d8⟩ | ⟨-, d8⟩ | ⟨-, -, -, d8⟩
    · have := rC_b d8
      omega
    · obtain ⟨-, a3, x3, d9, d10⟩ := d8
      have := rC_b d9
      rcases d10 with ⟨-, d10⟩ | ⟨-, y, d10⟩
      · omega
      · have := rC_b d10
        omega
    · obtain ⟨-, a3, x3, d9, d10⟩ := d8
      have := rC_b d9
      rcases d10 with ⟨-, d10⟩ | ⟨-, y, d10⟩
      · omega
      · have := rC_b d10
        omega
    · omega
  have l1 : p1 ≤ p2 := by
    obtain ⟨a2, x2, d6, d7, -⟩ := r2
    have := rC_b d6
    omega
  have l0 : qp D 2 k ≤ p1 := by
    obtain ⟨a2, x2, d6, d7, -⟩ := r1
    have := rC_b d6
    omega
  unfold w_M_importAt
  refine ⟨hB.2.1, m_placeOf (s := 2) hX h1 rfl (by decide) h2 hk (fun r hr _ => m_go hX h1 hr c1 (by omega) (fun v1 g1 g2 g3 g4 _ _ => m_name_k hs g3 (by rw [g4]; exact hz) r1 (by omega) (fun v2 o2 z2 _ => m_name_k hs (o2.P g3) z2 r2 (by omega) (fun v3 o3 z3 _ => m_next_k hs (o3.P (o2.P g3)) z3 (by omega) (fun v4 o4 z4 _ => ?_)))))⟩
  have O := o2.tr (o3.tr o4)
  rw [← hkp] at O ⊢
  exact hQ v4 ⟨g1.tr O.vg, by rw [O.1 14 (by decide) (by decide) (by decide)]; exact g2, O.P g3, z4⟩
theorem ikx_f {κ : Nat} : ∀ {n i : Nat}, i < kcn (qc D) (qp D 2) κ n → ikx D κ n i < n ∧ (ub (qc D) (kpo D (ikx D κ n i))).toInt = κ ∧ kcn (qc D) (qp D 2) κ (ikx D κ n i) = i
  | 0, i, h => by
    unfold kcn at h
    omega
  | n + 1, i, h => by
    unfold ikx
    split
    · rename_i hc
      exact ⟨by omega, hc.1, hc.2⟩
    · rename_i hc
      have : i < kcn (qc D) (qp D 2) κ n := by
        unfold kcn at h
        split at h
        · rename_i e9
          have : ¬ kcn (qc D) (qp D 2) κ n = i := fun e => hc ⟨e9, e⟩
          omega
        · omega
      obtain ⟨g1, g2, g3⟩ := ikx_f this
      exact ⟨by omega, g2, g3⟩
theorem kcn_mo {P2 : Nat → Nat} {κ : Nat} : ∀ {a b : Nat}, a ≤ b → kcn cb P2 κ a ≤ kcn cb P2 κ b := by
  intro a b h
  induction b with
  | zero => rw [Nat.le_zero.mp h]; exact Nat.le_refl _
  | succ b ih =>
    rcases Nat.lt_or_ge b a with h9 | h9
    · rw [show a = b + 1 by omega]; exact Nat.le_refl _
    · have := ih h9
      conv => rhs; unfold kcn
      omega
theorem ikx_u {κ i n k : Nat} (h1 : k < n) (h2 : (ub (qc D) (kpo D k)).toInt = κ) (h3 : kcn (qc D) (qp D 2) κ k = i) : ikx D κ n i = k := by
  have hs : ∀ k, (ub (qc D) (kpo D k)).toInt = κ → kcn (qc D) (qp D 2) κ (k + 1) = kcn (qc D) (qp D 2) κ k + 1 := fun k hk => by
    conv => lhs; unfold kcn
    have : (ub (qc D) (qN (qc D) (qN (qc D) (qp D 2 k)))).toInt = κ := hk
    rw [if_pos this]
  have hi : i < kcn (qc D) (qp D 2) κ n := by
    have := kcn_mo (cb := qc D) (P2 := qp D 2) (κ := κ) (show k + 1 ≤ n by omega)
    rw [hs k h2] at this
    omega
  obtain ⟨g1, g2, g3⟩ := ikx_f hi
  rcases Nat.lt_trichotomy (ikx D κ n i) k with h9 | h9 | h9
  · have := kcn_mo (cb := qc D) (P2 := qp D 2) (κ := κ) (show ikx D κ n i + 1 ≤ k by omega)
    rw [hs _ g2] at this
    omega
  · exact h9
  · have := kcn_mo (cb := qc D) (P2 := qp D 2) (κ := κ) (show k + 1 ≤ ikx D κ n i by omega)
    rw [hs _ h2] at this
    omega
theorem m_importOf {x1 x2 x3 : Int32} {κ i : Nat} {Qr : Int32 → xb_H → Prop} (hX : mX own mm A h F m D) (hz : v 17 = 0) (h1 : x1.toInt = m) (h2 : x2.toInt = κ) (h3 : x3.toInt = i) (hi : i < iM D κ) (hQ : ∀ (v' : Nat → Int32) (r : Int32), vg v v' → v' 17 = 0 → r.toInt = ikx D κ (qt D 2) i → ikx D κ (qt D 2) i < qt D 2 → Qr r (mH h F mm v')) : w_M_importOf mm x1 x2 x3 (mH h F mm v) Qr := by
  have bt := (hX.2.2.2.2.2.1 2 (by decide)).1
  have bi := hX.2.2.ib (κ := κ)
  have key : ∀ (n k : Nat) (x4 x5 : Int32) (v2 : Nat → Int32), vg v v2 → v2 17 = 0 → x5.toInt = k → k ≤ qt D 2 → qt D 2 - k ≤ n → x4.toInt + kcn (qc D) (qp D 2) κ k = i → 0 ≤ x4.toInt → w_M_importOf_L6 Qr (n + 1) mm x1 x2 x4 x5 (mH h F mm v2) := by
    intro n
    induction n with
    | zero =>
      intro k x4 x5 v2 g1 g2 e5 hk hn e4 p4
      have ek : k = qt D 2 := by omega
      have : kcn (qc D) (qp D 2) κ k = iM D κ := by rw [ek]; rfl
      omega
    | succ n ih =>
      intro k x4 x5 v2 g1 g2 e5 hk hn e4 p4
      unfold w_M_importOf_L6 w_M_importOf_L39
      refine ⟨hX.1.2.1, m_manyOf (s := 2) hX h1 rfl (by decide) (fun r hr _ => ⟨fun hle => ?_, fun hle => ?_⟩)⟩
      · rw [z_le, hr, e5] at hle
        have ek : k = qt D 2 := by omega
        have : kcn (qc D) (qp D 2) κ k = iM D κ := by rw [ek]; rfl
        omega
      · rw [z_le, hr, e5] at hle
        refine m_importAt hX g2 h1 e5 (by omega) (fun v3 k3 _ => ?_)
        have g3 := g1.tr k3.1
        have e51 : (x5 + 1).toInt = (k + 1 : Nat) := z_inc e5 (by omega)
        refine ⟨fun hne => ih (k + 1) x4 (x5 + 1) v3 g3 k3.2.2.2 e51 (by omega) (by omega) ?_ p4, fun he => ⟨fun hn0 => ih (k + 1) (x4 + -1) (x5 + 1) v3 g3 k3.2.2.2 e51 (by omega) (by omega) ?_ ?_, fun h0 => ?_⟩⟩
        · unfold kcn
          rw [if_neg (fun e9 => hne (by rw [z_eq, h2]; exact e9))]
          omega
        · have e6 : (ub (qc D) (qN (qc D) (qN (qc D) (qp D 2 k)))).toInt = κ := by
            rw [z_eq, h2] at he
            exact he
          rw [z_eq] at hn0
          simp only [Int32.reduceToInt] at hn0
          unfold kcn
          rw [if_pos e6, z_add]
          simp only [Int32.reduceToInt]
          omega
        · rw [z_eq] at hn0
          simp only [Int32.reduceToInt] at hn0
          rw [z_add]
          simp only [Int32.reduceToInt]
          omega
        · rw [z_eq] at h0
          simp only [Int32.reduceToInt] at h0
          have e6 : (ub (qc D) (kpo D k)).toInt = κ := by
            rw [z_eq, h2] at he
            exact he
          have e7 := ikx_u (D := D) (κ := κ) (i := i) (n := qt D 2) (k := k) (by omega) e6 (by omega)
          exact hQ v3 x5 g3 k3.2.2.2 (by rw [e7]; exact e5) (by omega)
  unfold w_M_importOf
  exact ⟨qt D 2 + 1, key (qt D 2) 0 x3 0 v vg.rf hz rfl (by omega) (by omega) (by rw [h3]; rfl) (by omega)⟩
end MX1
