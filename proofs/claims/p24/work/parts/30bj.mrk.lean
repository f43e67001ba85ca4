-- the reference: a run, numbers and places
def uxA : List Nat := [31, 44, 45, 69, 70, 71, 72, 73, 75, 77, 78, 79, 80]
section MRK
variable {own : Nat → Nat} {mm m i ip k f t b nl o top q a o1 op : Nat} {A : Nat → Nat} {h h' h2 : xb_H} {F F' F2 : Nat → Nat → Int32} {v v' v2 : Nat → Int32} {D : zM} {DM : Nat → zM} {len rl K : Nat} {Q : xb_H → Prop} {Ql : Int64 → xb_H → Prop} {φ φ' : Nat → Nat → Int32} {ν ν' : Nat → Int32} {c c' ex pre : List Int} {gs g1 : List gF} {T p0 E : Nat} {lo ν0 ν1 cb : Nat → Int32} {G : ctG} {V : Nat → Prop} {rm y res : Int} {r : List cX} {nst : Prop} {x : Nat × Option Nat}
theorem n_ch (hA : rU own mm A h F v DM len rl K) (hf : f0 own h F h' F') (hE : ∃ (rw_ : Nat) (f : Nat → Nat), own rw_ = 300 ∧ eK (A 90) rw_ f (mH h' F' mm v')) (h1 : W1 v' K) (h2 : RY (fun k => F' (A k)) v' len DM) (h34 : v' 34 = v 34) (h13 : v' 13 = v 13) : rU own mm A h' F' v' DM len rl K := by
  obtain ⟨a1, a2, a3, -, -, -⟩ := hA
  refine ⟨a1.f hf, a2.f hf, ⟨by rw [hf.2.1]; exact a3.1, a3.2.1, a3.2.2.1, ?_, ?_⟩, hE, h1, h2⟩
  · unfold vN
    rw [h34]
    exact a3.2.2.2.1
  · unfold vN
    rw [h13]
    exact a3.2.2.2.2
/-- Exact's part stays -/
theorem n_eE (hA : rU own mm A h F v DM len rl K) (hf : f0 own h F h' F') (h90 : F' (A 90) = F (A 90)) (h300 : ∀ a, own a = 300 → F' a = F a) : ∃ (rw_ : Nat) (f : Nat → Nat), own rw_ = 300 ∧ eK (A 90) rw_ f (mH h' F' mm v') := by
  obtain ⟨a1, a2, a3, ⟨rw_, f, a4, a5⟩, a6, a7⟩ := hA
  have n1 : A 90 ≠ mm := a1.nm (by decide)
  have n2 : rw_ ≠ mm := fun e => by
    have := a1.1
    rw [e] at a4
    omega
  exact ⟨rw_, f, a4, a5.cg hf.1 hf.2.1 hf.2.2.1 (by rw [mH_o n1, mH_o n1, h90]) (by rw [mH_o n2, mH_o n2, h300 _ a4])⟩
theorem uX.cg (hX : uX own mm A h F v DM len rl K D t f b nl k o c gs T p0 E lo ν0 ν1 G V rm r) (hU : rU own mm A h' F' v' DM len rl K) (hF : ∀ k, k ∈ uxA → F' (A k) = F (A k)) (h43 : v' 43 = v 43) (h68 : v' 68 = v 68) (h76 : v' 76 = v 76) (h81 : v' 81 = v 81) : uX own mm A h' F' v' DM len rl K D t f b nl k o c gs T p0 E lo ν0 ν1 G V rm r := by
  obtain ⟨a1, ⟨l1, l2, l3, l4, l5, l6, l7, l8⟩, ⟨a3, a4, a5⟩, a6, a7, ⟨a8, a9, a10⟩, a11⟩ := hX
  have e43 : vN v' 43 = vN v 43 := by
    unfold vN
    rw [h43]
  obtain ⟨em, et, -, er⟩ := fMo.st (DM := DM) (φ := fun k => F (A k)) (φ' := fun k => F' (A k)) (hF 31 (by decide)) (hF 44 (by decide)) (hF 45 (by decide))
  refine ⟨hU, ⟨l1, ?_, l3, fun i hi => ?_, ?_, ?_, ?_, l8⟩, ⟨by rw [em]; exact a3, by rw [et]; exact a4, by rw [e43]; exact a5⟩, ?_, a7, ⟨by rw [h68]; exact a8, by rw [h76]; exact a9, by rw [h81]; exact a10⟩, a11⟩
  · show (F' (A 69) k).toInt = f ∧ (F' (A 71) k).toInt = b ∧ (F' (A 72) k).toInt = nl ∧ (F' (A 73) k).toInt = o
    rw [hF 69 (by decide), hF 71 (by decide), hF 72 (by decide), hF 73 (by decide)]
    exact l2
  · show (F' (A 75) (b + i)).toInt = _
    rw [hF 75 (by decide)]
    exact l4 i hi
  · show tyS (F' (A 75)) (b + nl) c
    rw [hF 75 (by decide)]
    exact l5
  · show (F' (A 77) o).toInt = 0 ∧ (F' (A 79) o).toInt = tRt D t ∧ (F' (A 80) o).toInt = (b + nl : Nat)
    rw [hF 77 (by decide), hF 79 (by decide), hF 80 (by decide)]
    exact l6
  · refine l7.fr (φ' := fun k => F' (A k)) (fun k hk j _ => ?_)
    show F' (A k) j = F (A k) j
    rw [hF k ((by decide : ∀ k, k ∈ [77, 78, 79, 80] → k ∈ uxA) k hk)]
  · rw [er]
    refine a6.fr (φ' := fun k => F' (A k)) (hF 31 (by decide)) (hF 44 (by decide)) (hF 45 (by decide)) e43 (fun k hk j _ => ?_) (fun j hj => ?_) (fun k hk j hj => ?_)
    · show F' (A k) j = F (A k) j
      rw [hF k ((by decide : ∀ k, k ∈ [69, 70, 71, 72, 73] → k ∈ uxA) k hk)]
    · show F' (A 75) j = F (A 75) j
      rw [hF 75 (by decide)]
    · show F' (A k) j = F (A k) j
      rw [hF k ((by decide : ∀ k, k ∈ [77, 78, 79, 80] → k ∈ uxA) k hk)]
/-- a long number of its own gets written -/
theorem uX.Lw {j d : Nat} {z : Int64} (hX : uX own mm A h F v DM len rl K D t f b nl k o c gs T p0 E lo ν0 ν1 G V rm r) (hd : 60 ≤ own d) : uX own mm A (xb_L h d j z) F v DM len rl K D t f b nl k o c gs T p0 E lo ν0 ν1 G V rm r := hX.cg (hX.1.sF (sF.L (A := A) hd) hX.1.z hX.1.W1.2.1.2.2) (fun _ _ => rfl) rfl rfl rfl rfl
/-- Exact reckons -/
theorem n_exact {x1 : Int32} {z y0 : Int64} (hX : uX own mm A h F v DM len rl K D t f b nl k o c gs T p0 E lo ν0 ν1 G V rm r) (hx : x1.toInt = op) (h1 : 69 ≤ op) (h2 : op < 192) (hQ : ∀ (z : Int64) (h' : xb_H) (F' : Nat → Nat → Int32), f0 own h F h' F' → uX own mm A h' F' v DM len rl K D t f b nl k o c gs T p0 E lo ν0 ν1 G V rm r → Ql z (mH h' F' mm v)) : w_Exact_run (A 90) x1 z y0 (mH h F mm v) Ql := by
  obtain ⟨a1, a2, a3, ⟨rw_, f, a4, a5⟩, a6, a7⟩ := id hX.1
  have n1 : A 90 ≠ mm := a1.nm (by decide)
  have n2 : rw_ ≠ mm := fun e => by
    have := a1.1
    rw [e] at a4
    omega
  have own90 : own (A 90) = 61 + 90 := a1.o (by decide)
  refine sp_erun hx h1 h2 a5 (fun z' h' f' g1 g2 => ?_)
  obtain ⟨e1, e2, e3, e4, e5, e6, e7⟩ := g1
  have hm : xb_i h' mm = v := by
    rw [e4 mm (Ne.symm n1) (Ne.symm n2)]
    exact mH_i
  have ev : va_up (va_up (xb_i h') mm (F mm)) mm v = xb_i h' := by
    funext j
    rw [xh_up]
    split
    · next e => rw [e, hm]
    · next e => rw [xh_up, if_neg e]
  have eh : h' = mH h' (va_up (xb_i h') mm (F mm)) mm v := by
    show h' = xb_W h' (va_up (va_up (xb_i h') mm (F mm)) mm v)
    rw [ev]
    rfl
  have fo : ∀ a, a ≠ A 90 → a ≠ rw_ → va_up (xb_i h') mm (F mm) a = F a := fun a g3 g4 => by
    rw [xh_up]
    split
    · next e => rw [e]
    · next e => rw [e4 a g3 g4, mH_o e]
  have hf : f0 own h F h' (va_up (xb_i h') mm (F mm)) := by
    refine ⟨e1, e2, e3, fun a ha => ⟨e5 a (fun e => by rw [e, own90] at ha; omega), fo a (fun e => by rw [e, own90] at ha; omega) (fun e => by rw [e, a4] at ha; omega)⟩⟩
  have fk : ∀ k, (∃ e ∈ aL, e.1 = k) → k ≠ 90 → k < 200 → va_up (xb_i h') mm (F mm) (A k) = F (A k) := fun k g3 g4 g5 => fo _ (a1.ne g3 (by decide) g4) (fun e => by
    have := a1.o g3
    rw [e, a4] at this
    omega)
  have q1 : ∀ k, k ∈ aRY → (∃ e ∈ aL, e.1 = k) ∧ k ≠ 90 ∧ k < 200 := by decide
  have q2 : ∀ k, k ∈ uxA → (∃ e ∈ aL, e.1 = k) ∧ k ≠ 90 ∧ k < 200 := by decide
  have hU : rU own mm A h' (va_up (xb_i h') mm (F mm)) v DM len rl K := n_ch hX.1 hf ⟨rw_, f', a4, by rw [← eh]; exact g2⟩ a6 (a7.cg (fun k hk => fk k (q1 k hk).1 (q1 k hk).2.1 (q1 k hk).2.2) (fun _ _ => rfl)) rfl rfl
  rw [eh]
  exact hQ z' h' _ hf (hX.cg hU (fun k hk => fk k (q2 k hk).1 (q2 k hk).2.1 (q2 k hk).2.2) rfl rfl rfl rfl)
theorem n_reckon {x1 : Int32} (hX : uX own mm A h F v DM len rl K D t f b nl k o c gs T p0 E lo ν0 ν1 G V rm r) (hG : G 0 a c gs) (hr : rdP v (qb D) (a + 1) (qe D)) (h82 : v 82 = 0) (hx1 : x1.toInt = op) (hop : (qc D a).toInt % 256 = op) (ho : 69 ≤ op) (hn : ¬ nst)
    (hQ : ∀ (h' : xb_H) (F' : Nat → Nat → Int32) (v' : Nat → Int32), uP own mm A DM len rl K D t f b nl k o T p0 E lo ν0 ν1 G V rm r a nst h F v h' F' v' → Q (mH h' F' mm v')) : w_M_reckon mm x1 (mH h F mm v) Q := by
  obtain ⟨C, dD, hVa, hwk, hE1, hE2, hE3, hvk, hcc⟩ := hX.ai hG hop
  obtain ⟨-, -, -, -, -, -, -, -, -, -, -, -, -, -, -, -, -, C17⟩ := C
  obtain ⟨-, -, -, -, -, -, -, -, -, D17⟩ := dD
  have h192 : op < 192 := by
    rcases Nat.lt_or_ge op 192 with h9 | h9
    · exact h9
    · exfalso
      unfold wk_sh at hE3
      rw [if_pos (by omega), if_neg (by omega)] at hE3
      omega
  have hB := hX.1.B
  obtain ⟨g90, k90, -, m90⟩ := hB.g (k := 90) (kd := 10) (n := 0) (by decide)
  obtain ⟨i', c2, i1', i2', i3', i4', i5'⟩ := C17 (by omega)
  obtain ⟨i, i1, i2, i3, i4, i5, i6⟩ := sg_row op h192 ho
  have ei : i' = i := by
    rcases Nat.lt_trichotomy i' i with h9 | h9 | h9
    · have := i2 i' h9
      omega
    · exact h9
    · have := i2' i h9
      omega
  subst ei
  have hd := D17 (by omega) i' i1 i2 i3
  rw [i4, i5] at i4'
  rw [i6] at i5'
  rw [i4] at hd
  obtain ⟨t1, t2, t3, t4⟩ := sg_rng op h192 ho
  have sub : ∀ (z : Int32) (w : Int), z.toInt = 127 - w → 124 ≤ w → w ≤ 127 → (127 - z).toInt = w := fun z w hz h1 h2 => by
    rw [z_sub, hz]
    simp only [Int32.reduceToInt]
    omega
  have m90' : A 90 ≠ mm := hB.nm (by decide)
  have L21 : ∀ (v1 : Nat → Int32) (y0 : Int64), sF own A h F v h F v1 → (∀ j, j ≠ 76 → v1 j = v j) → uX own mm A h F v1 DM len rl K D t f b nl k o (sgA op :: c2) gs T p0 E lo ν0 ν1 G V rm r → gbl gs ≤ c2.length → w_M_reckon_L21 Q mm x1 y0 (mH h F mm v1) := by
    intro v1 y0 s1 w1 hX1 hg
    unfold w_M_reckon_L21
    refine sp_efirst hx1 ho h192 (fun r2 e2 _ => ⟨hB.2.1, hX1.pop (.inr (sub r2 _ e2 t1 t2)) hg (fun z v2 s2 w2 hX2 _ => ⟨A 90, g90, k90, ?_⟩)⟩)
    refine n_exact hX2 hx1 ho h192 (fun z9 h3 F3 f3 hX3 _ => ?_)
    have hB3 := hX3.1.B
    obtain ⟨g90', k90', -, -⟩ := hB3.g (k := 90) (kd := 10) (n := 0) (by decide)
    have v15 : (v2 15).toInt = (a + 1 : Nat) := by
      rw [w2 15 (by decide), w1 15 (by decide)]
      exact hr.1
    have v82 : v2 82 = 0 := by rw [w2 82 (by decide), w1 82 (by decide), h82]
    have pf : pF own h F v h3 F3 v2 := (s1.tr s2).P.tr ⟨f3, fun _ _ _ _ => rfl⟩
    refine ⟨A 90, g90', k90', fun hle => ?_, fun hgt => ⟨A 90, g90', k90', fun h19 e19 => ?_⟩⟩
    · refine sp_eresult hx1 ho h192 (fun r14 e14 _ => ?_)
      have e8 := sub r14 _ e14 t3 t4
      have hl := hX.rm' i5'
      simp only [List.length_cons] at hl
      refine hX3.push (by rw [e8]; omega) (by omega) (fun h4 F4 v4 s4 w4 f4 hX4 _ => ?_)
      unfold w_M_reckon_L87
      rw [e8] at hX4
      exact hQ _ _ _ ⟨pf.tr s4.P, .inl ⟨_, gs, a + 1, hX4, by rw [w4 15 (by decide)]; exact v15, i5', by rw [w4 82 (by decide)]; exact v82, fun h9 => absurd h9 hn⟩⟩
    · rw [mH_I] at e19
      subst e19
      unfold w_M_reckon_L87
      refine hQ _ _ _ (uP.tr pf (hX3.trap (fun e0 => ?_)))
      rw [z_le] at hgt
      rw [z_eq, z_add] at e0
      have := z_rg (xb_i (mH h3 F3 mm v2) (A 90) 0)
      simp only [Int32.reduceToInt] at e0 hgt
      omega
  unfold w_M_reckon
  refine sp_esecond hx1 ho h192 (fun r2 e2 _ => ⟨fun hneg => ?_, fun hpos => ⟨hB.2.1, ?_⟩⟩)
  · rcases e2 with ⟨e1, e2⟩ | ⟨e1, -⟩
    · rw [z_lt, e2] at hneg
      simp only [Int32.reduceToInt] at hneg
      omega
    · rw [e1] at i4' hd
      have ec : c = sgA op :: c2 := i4'
      subst ec
      have hd' : gbl gs + 1 ≤ c2.length + 1 := hd
      exact L21 v 0 sF.rf (fun _ _ => rfl) hX (by omega)
  · rcases e2 with ⟨e1, e2⟩ | ⟨-, e2⟩
    · rw [e1] at i4' hd
      have ec : c = sgA op :: sgA op :: c2 := i4'
      subst ec
      have hd' : gbl gs + 2 ≤ c2.length + 1 + 1 := hd
      exact hX.pop (.inr (sub r2 _ e2 t1 t2)) (by simp only [List.length_cons]; omega) (fun z v2 s2 w2 hX2 _ => L21 v2 z s2 w2 hX2 (by omega))
    · rw [z_lt, e2] at hpos
      simp only [Int32.reduceToInt] at hpos
      omega
theorem n_constantOf {x1 : Int32} (hX : uX own mm A h F v DM len rl K D t f b nl k o c gs T p0 E lo ν0 ν1 G V rm r) (hG : G 0 a c gs) (hr : rdP v (qb D) (a + 1) (qe D)) (h82 : v 82 = 0) (hx1 : x1.toInt = op) (hop : (qc D a).toInt % 256 = op) (ho : 65 ≤ op) (ho2 : op < 69) (hn : ¬ nst)
    (hQ : ∀ (h' : xb_H) (F' : Nat → Nat → Int32) (v' : Nat → Int32), uP own mm A DM len rl K D t f b nl k o T p0 E lo ν0 ν1 G V rm r a nst h F v h' F' v' → Q (mH h' F' mm v')) : w_M_constantOf mm x1 (mH h F mm v) Q := by
  obtain ⟨C, dD, hVa, hwk, hE1, hE2, hE3, hvk, hcc⟩ := hX.ai hG hop
  obtain ⟨iz, mz, bz, y1, y2, y3, y4, y5, y6, y7, y8, y9, hM, hM2, hM3⟩ := hX.dX
  obtain ⟨-, -, -, -, -, -, -, -, -, -, -, -, -, -, -, -, C16, -⟩ := C
  have hB := hX.1.B
  obtain ⟨xx, c1, c2, c3⟩ := C16 (by omega) (by omega)
  have sh : wk_sh ((qc D a).toInt % 256) = 9 + (op - 65) := by
    rw [hop]
    unfold wk_sh
    rw [if_neg (by omega), if_pos (by omega)]
    omega
  obtain ⟨q, hnr, q1, q2, q3, q4⟩ := wOK.nx hvk hVa hwk (by omega)
  obtain ⟨n1, n2, -⟩ := hnr
  have exq : xx = q := by
    have h8 := c1.2.2
    rw [(hvk.2.1 a hVa).2.2.2 (by omega)] at h8
    have := n2 (by omega)
    omega
  subst exq
  rw [sh] at n1
  have hl := hX.rm' c3
  simp only [List.length_cons] at hl
  have e8 : (192 - x1).toInt = 192 - (op : Int) := by
    rw [z_sub, hx1]
    simp only [Int32.reduceToInt]
    omega
  have L69 : ∀ (v1 : Nat → Int32) (y0 : Int64), vg v v1 → v1 17 = 0 → (v1 15).toInt = xx → w_M_constantOf_L69 Q mm x1 y0 (mH h F mm v1) := by
    intro v1 y0 g1 w1 p1
    unfold w_M_constantOf_L69
    have hX1 := hX.vg g1 w1
    refine ⟨hB.2.1, hX1.push (by rw [e8]; omega) (by omega) (fun h4 F4 v4 s4 w4 f4 hX4 _ => ?_)⟩
    rw [e8] at hX4
    exact hQ _ _ _ ⟨(g1.sF.tr s4).P, .inl ⟨_, gs, xx, hX4, by rw [w4 15 (by decide)]; exact p1, c3, by rw [w4 82 (by decide), g1 82 (by decide) (by decide) (by decide) (by decide) (by decide)]; exact h82, fun h9 => absurd h9 hn⟩⟩
  have L22 : ∀ y0 : Int32, (y0 = 32 ∧ op = 65) ∨ (y0 = 64 ∧ op = 66) → w_M_constantOf_L22 Q mm x1 y0 mm (mH h F mm v) := by
    intro y0 hy
    unfold w_M_constantOf_L22
    have hrd : rds (qc D) y0 (if y0 = 32 then 5 else 10) (a + 1) = some xx := by
      rcases hy with ⟨e1, e2⟩ | ⟨e1, e2⟩
      · subst e1
        exact n1.2.2.2.2.2.2.2.1 (by omega)
      · subst e1
        exact n1.2.2.2.2.2.2.2.2.1 (by omega)
    refine ⟨hB.2.1, m_signed (hy.imp And.left And.left) hM.rd hr (fun z v1 p' r1 g1 g2 _ => ?_)⟩
    have w1 := g2 hX.1.z ⟨xx, 0, hrd, by omega⟩
    have g3 := g1 w1
    rw [hrd] at g3
    simp only [Option.some.injEq] at g3
    subst g3
    exact L69 v1 z r1.vg w1 r1.2.1
  have loop : ∀ (N : Nat) (y0 : Int32), y0.toInt = N → N ≤ 8 → a + 1 + N = xx → (∀ (K32 : Nat → Int32 → Int64 → Int32 → xb_H → Prop) (x2 : Int64) (x4 : Int32) (hh : xb_H), w_M_constantOf_L46 K32 Q mm x1 x2 x4 y0 x4 hh → ((¬ x1 = (67 : Int32) → w_M_constantOf_L46 K32 Q mm x1 x2 x4 8 x4 hh) ∧ (x1 = (67 : Int32) → w_M_constantOf_L46 K32 Q mm x1 x2 x4 4 x4 hh))) → ∀ (n j : Nat) (v1 : Nat → Int32) (x2 : Int64) (x4 : Int32), n + j = N → x4.toInt = j → vg v v1 → v1 17 = 0 → rdP v1 (qb D) (a + 1 + j) (qe D) → w_M_constantOf_L32 Q (n + 1) mm x1 x2 x4 (mH h F mm v1) := by
    intro N y0 hy0 hN hxx hsel n
    induction n with
    | zero =>
      intro j v1 x2 x4 hj h4 g1 w1 p1
      unfold w_M_constantOf_L32
      refine hsel _ _ _ _ ?_
      unfold w_M_constantOf_L46
      refine ⟨fun _ => L69 v1 x2 g1 w1 (by rw [p1.1]; congr 1; omega), fun h9 => ?_⟩
      rw [z_le, hy0, h4] at h9
      omega
    | succ n ih =>
      intro j v1 x2 x4 hj h4 g1 w1 p1
      unfold w_M_constantOf_L32
      refine hsel _ _ _ _ ?_
      unfold w_M_constantOf_L46
      refine ⟨fun h9 => ?_, fun _ => ⟨hB.2.1, ?_⟩⟩
      · rw [z_le, hy0, h4] at h9
        omega
      · refine m_next_k hM.rd p1 w1 (by omega) (fun v2 r2 w2 _ v5 _ => ?_)
        exact ih (j + 1) v2 v5 (x4 + 1) (by omega) (z_inc h4 (by omega)) (g1.tr r2.vg) w2 (r2.P p1)
  unfold w_M_constantOf
  refine ⟨fun h66 => ?_, fun h66 => ⟨fun h65 => L22 64 (.inr ⟨rfl, ?_⟩), fun h65 => L22 32 (.inl ⟨rfl, ?_⟩)⟩⟩
  · rw [z_lt, hx1] at h66
    simp only [Int32.reduceToInt] at h66
    rcases (by omega : op = 67 ∨ op = 68) with e | e
    · have hq := n1.2.2.2.2.2.2.2.2.2.1 (by omega)
      exact ⟨5, loop 4 4 rfl (by decide) (by omega) (fun K32 x2 x4 hh hw => ⟨fun h9 => absurd (by rw [z_eq, hx1, e]; rfl) h9, fun _ => hw⟩) 4 0 v 0 0 rfl rfl vg.rf hX.1.z hr⟩
    · have hq := n1.2.2.2.2.2.2.2.2.2.2.1 (by omega)
      exact ⟨9, loop 8 8 rfl (by decide) (by omega) (fun K32 x2 x4 hh hw => ⟨fun _ => hw, fun h9 => by rw [z_eq, hx1, e] at h9; exact absurd h9 (by decide)⟩) 8 0 v 0 0 rfl rfl vg.rf hX.1.z hr⟩
  · rw [z_lt, hx1] at h66
    have : op ≠ 65 := fun e => h65 (by rw [z_eq, hx1, e]; rfl)
    simp only [Int32.reduceToInt] at h66
    omega
  · rw [z_eq, hx1] at h65
    simp only [Int32.reduceToInt] at h65
    omega
end MRK
