-- the reference: a run, numbers and places
def uxA : List Nat := [31, 44, 45, 69, 70, 71, 72, 73, 75, 77, 78, 79, 80]
/-- what Exact answers -/
def xqS (o : Nat) (x y r : Int64) (k : Int32) : Prop := x.toBitVec.toNat < 2 ^ nmw o → y.toBitVec.toNat < 2 ^ nmw o → (167 ≤ o → y.toBitVec.toNat = 0) → (nmt o x.toBitVec.toNat y.toBitVec.toNat = 0 ∧ k = 0 ∧ r = nmI o x.toBitVec.toNat y.toBitVec.toNat) ∨ (nmt o x.toBitVec.toNat y.toBitVec.toNat ≠ 0 ∧ k.toInt + 1 = nmt o x.toBitVec.toNat y.toBitVec.toNat)
/-- a number's instruction: the outcome -/
def rkR (b nl op a : Nat) (c : List Int) (gs : List gF) (w : Nat → Int64) (z : uZ) : Prop :=
  ∃ c2 : List Int, c = List.replicate (sgN op) (sgA op) ++ c2 ∧ (nVa w (b + nl + c2.length) < 2 ^ nmw op → nVb op w (b + nl + c2.length) < 2 ^ nmw op → ((nmt op (nVa w (b + nl + c2.length)) (nVb op w (b + nl + c2.length)) ≠ 0 ∧ ∃ κ : Int32, κ.toInt = nmt op (nVa w (b + nl + c2.length)) (nVb op w (b + nl + c2.length)) ∧ z = .inr (.inr κ)) ∨ (nmt op (nVa w (b + nl + c2.length)) (nVb op w (b + nl + c2.length)) = 0 ∧ z = .inl (sgR op :: c2, gs, a + 1, va_up w (b + nl + c2.length) (nmI op (nVa w (b + nl + c2.length)) (nVb op w (b + nl + c2.length)))))))
/-- a constant's worth -/
def ktV (D : zM) (op a : Nat) : Int64 := if op = 65 then svl (qc D) 32 4 5 (a + 1) 0 0 else if op = 66 then svl (qc D) 64 9 10 (a + 1) 0 0 else byv (qc D) (if op = 67 then 4 else 8) (a + 1) 0 0
section MRK
variable {own : Nat → Nat} {mm m i ip k f t b nl o top q a o1 op : Nat} {A : Nat → Nat} {h h' h2 : xb_H} {F F' F2 : Nat → Nat → Int32} {v v' v2 : Nat → Int32} {D : zM} {DM : Nat → zM} {len rl K : Nat} {Q : xb_H → Prop} {Ql : Int64 → xb_H → Prop} {φ φ' : Nat → Nat → Int32} {ν ν' : Nat → Int32} {c c' ex pre : List Int} {gs g1 : List gF} {T p0 E : Nat} {lo ν0 ν1 cb : Nat → Int32} {G : ctG} {V : Nat → Prop} {rm y res : Int} {r : List cX} {nst : Prop} {x : Nat × Option Nat}
theorem n_ch (hA : rU own mm A h F v DM len rl K) (hf : f0 own h F h' F') (hE : ∃ (rw_ : Nat) (f : Nat → Nat), own rw_ = 300 ∧ eK (A 90) rw_ f (mH h' F' mm v')) (h1 : W1 v' K) (h2 : RY (fun k => F' (A k)) v' len DM) (h34 : v' 34 = v 34) (h13 : v' 13 = v 13) : rU own mm A h' F' v' DM len rl K := by
  obtain ⟨a1, a2, a3, -, -, -⟩ := hA
  refine ⟨a1.f hf, a2.f hf, ⟨by rw [hf.2.1]; exact a3.1, a3.2.1, a3.2.2.1, ?_, ?_⟩, hE, h1, h2⟩
  · unfold vN
    rw [h34]
    exact a3.2.2.2.1
  · unfold vN
    rw [h13]
    exact a3.2.2.2.2
/-- Exact's part stays -/
theorem n_eE (hA : rU own mm A h F v DM len rl K) (hf : f0 own h F h' F') (h90 : F' (A 90) = F (A 90)) (h300 : ∀ a, own a = 300 → F' a = F a) : ∃ (rw_ : Nat) (f : Nat → Nat), own rw_ = 300 ∧ eK (A 90) rw_ f (mH h' F' mm v') := by
  obtain ⟨a1, a2, a3, ⟨rw_, f, a4, a5⟩, a6, a7⟩ := hA
  have n1 : A 90 ≠ mm := a1.nm (by decide)
  have n2 : rw_ ≠ mm := fun e => by
    have := a1.1
    rw [e] at a4
    omega
  exact ⟨rw_, f, a4, a5.cg hf.1 hf.2.1 hf.2.2.1 (by rw [mH_o n1, mH_o n1, h90]) (by rw [mH_o n2, mH_o n2, h300 _ a4])⟩
theorem rU.Lw {j d : Nat} {z : Int64} (hA : rU own mm A h F v DM len rl K) (hd : 60 ≤ own d) : rU own mm A (xb_L h d j z) F v DM len rl K := n_ch hA (f0.L hd) (n_eE hA (f0.L hd) rfl (fun _ _ => rfl)) hA.2.2.2.2.1 hA.2.2.2.2.2 rfl rfl
theorem uX.cg (hX : uX own mm A h F v DM len rl K D t f b nl k o c gs T p0 E lo ν0 ν1 G V rm r) (hU : rU own mm A h' F' v' DM len rl K) (hF : ∀ k, k ∈ uxA → F' (A k) = F (A k)) (h43 : v' 43 = v 43) (h68 : v' 68 = v 68) (h76 : v' 76 = v 76) (h81 : v' 81 = v 81) : uX own mm A h' F' v' DM len rl K D t f b nl k o c gs T p0 E lo ν0 ν1 G V rm r := by
  obtain ⟨a1, ⟨l1, l2, l3, l4, l5, l6, l7, l8⟩, ⟨a3, a4, a5⟩, a6, a7, ⟨a8, a9, a10⟩, a11⟩ := hX
  have e43 : vN v' 43 = vN v 43 := by
    unfold vN
    rw [h43]
  obtain ⟨em, et, -, er⟩ := fMo.st (DM := DM) (φ := fun k => F (A k)) (φ' := fun k => F' (A k)) (hF 31 (by decide)) (hF 44 (by decide)) (hF 45 (by decide))
  refine ⟨hU, ⟨l1, ?_, l3, fun i hi => ?_, ?_, ?_, ?_, l8⟩, ⟨by rw [em]; exact a3, by rw [et]; exact a4, by rw [e43]; exact a5⟩, ?_, a7, ⟨by rw [h68]; exact a8, by rw [h76]; exact a9, by rw [h81]; exact a10⟩, a11⟩
  · show (F' (A 69) k).toInt = f ∧ (F' (A 71) k).toInt = b ∧ (F' (A 72) k).toInt = nl ∧ (F' (A 73) k).toInt = o
    rw [hF 69 (by decide), hF 71 (by decide), hF 72 (by decide), hF 73 (by decide)]
    exact l2
  · show (F' (A 75) (b + i)).toInt = _
    rw [hF 75 (by decide)]
    exact l4 i hi
  · show tyS (F' (A 75)) (b + nl) c
    rw [hF 75 (by decide)]
    exact l5
  · show (F' (A 77) o).toInt = 0 ∧ (F' (A 79) o).toInt = tRt D t ∧ (F' (A 80) o).toInt = (b + nl : Nat)
    rw [hF 77 (by decide), hF 79 (by decide), hF 80 (by decide)]
    exact l6
  · refine l7.fr (φ' := fun k => F' (A k)) (fun k hk j _ => ?_)
    show F' (A k) j = F (A k) j
    rw [hF k ((by decide : ∀ k, k ∈ [77, 78, 79, 80] → k ∈ uxA) k hk)]
  · rw [er]
    refine a6.fr (φ' := fun k => F' (A k)) (hF 31 (by decide)) (hF 44 (by decide)) (hF 45 (by decide)) e43 (fun k hk j _ => ?_) (fun j hj => ?_) (fun k hk j hj => ?_)
    · show F' (A k) j = F (A k) j
      rw [hF k ((by decide : ∀ k, k ∈ [69, 70, 71, 72, 73] → k ∈ uxA) k hk)]
    · show F' (A 75) j = F (A 75) j
      rw [hF 75 (by decide)]
    · show F' (A k) j = F (A k) j
      rw [hF k ((by decide : ∀ k, k ∈ [77, 78, 79, 80] → k ∈ uxA) k hk)]
/-- a long number of its own gets written -/
theorem uX.Lw {j d : Nat} {z : Int64} (hX : uX own mm A h F v DM len rl K D t f b nl k o c gs T p0 E lo ν0 ν1 G V rm r) (hd : 60 ≤ own d) : uX own mm A (xb_L h d j z) F v DM len rl K D t f b nl k o c gs T p0 E lo ν0 ν1 G V rm r := hX.cg (hX.1.Lw hd) (fun _ _ => rfl) rfl rfl rfl rfl
theorem n_exK (hB : mB own mm A h) (hl : ∀ a, a ≠ A 90 → xb_l h' a = xb_l h a) (hF : ∀ k, (∃ e ∈ aL, e.1 = k) → k ≠ 90 → k < 200 → F' (A k) = F (A k)) : xK mm A h F h' F' ∧ rwd A h' F' v = rwd A h F v ∧ xb_l h' (A 74) = xb_l h (A 74) := by
  have l : ∀ k, (∃ e ∈ aL, e.1 = k) → k ≠ 90 → xb_l h' (A k) = xb_l h (A k) := fun k h1 h2 => hl _ (hB.ne h1 (by decide) h2)
  have q1 : ∀ k, k ∈ kA → (∃ e ∈ aL, e.1 = k) ∧ k ≠ 90 ∧ k < 200 := by decide
  have q2 : ∀ k, k ∈ kL → (∃ e ∈ aL, e.1 = k) ∧ k ≠ 90 := by decide
  refine ⟨⟨fun k hk => hF k (q1 k hk).1 (q1 k hk).2.1 (q1 k hk).2.2, fun k hk => l k (q2 k hk).1 (q2 k hk).2, hl _ (Ne.symm (hB.nm (by decide))), fun h9 j => ?_⟩, ?_, l 74 (by decide) (by decide)⟩
  · rw [hF 75 (by decide) (by decide) (by decide), l 74 (by decide) (by decide)]
    exact h9 j
  · unfold rwd
    rw [l 61 (by decide) (by decide), l 87 (by decide) (by decide), hF 57 (by decide) (by decide) (by decide), hF 54 (by decide) (by decide) (by decide), hF 56 (by decide) (by decide) (by decide)]
theorem nmI_a {a c : Nat} (h1 : 69 ≤ op) (h2 : op < 192) : arV (sgR op) (nmI op a c) = nmI op a c := by
  unfold arV
  by_cases h9 : sgR op = 127 ∨ sgR op = 125
  · rw [if_pos h9]
    have e : nmr op = 32 := (nmr_c op h2 h1).1.mp (by omega)
    unfold nmI
    refine nI64_e ?_
    have h3 := Nat.mod_lt (nmv op a c) (show 2 ^ 32 > 0 by decide)
    rw [Z_and_mod _ 32 rfl, e, nI64_n (by omega), Nat.mod_mod]
  · rw [if_neg h9]
theorem sgN_1 : ∀ o, o < 192 → 167 ≤ o → sgN o = 1 := by decide +kernel
/-- Exact reckons -/
theorem n_exact {x1 : Int32} {z y0 : Int64} (hX : uX own mm A h F v DM len rl K D t f b nl k o c gs T p0 E lo ν0 ν1 G V rm r) (hx : x1.toInt = op) (h1 : 69 ≤ op) (h2 : op < 192) (hQ : ∀ (z' : Int64) (h' : xb_H) (F' : Nat → Nat → Int32), f0 own h F h' F' → (∀ a, a ≠ A 90 → xb_l h' a = xb_l h a) → (∀ k, (∃ e ∈ aL, e.1 = k) → k ≠ 90 → k < 200 → F' (A k) = F (A k)) → xqS op z y0 z' (F' (A 90) 0) → uX own mm A h' F' v DM len rl K D t f b nl k o c gs T p0 E lo ν0 ν1 G V rm r → Ql z' (mH h' F' mm v)) : w_Exact_run (A 90) x1 z y0 (mH h F mm v) Ql := by
  obtain ⟨a1, a2, a3, ⟨rw_, f, a4, a5⟩, a6, a7⟩ := id hX.1
  have n1 : A 90 ≠ mm := a1.nm (by decide)
  have n2 : rw_ ≠ mm := fun e => by
    have := a1.1
    rw [e] at a4
    omega
  have own90 : own (A 90) = 61 + 90 := a1.o (by decide)
  have key : ∀ (z' : Int64) (h' : xb_H) (f' : Nat → Nat), eF (A 90) rw_ eFA (mH h F mm v) h' → eK (A 90) rw_ f' h' → xqS op z y0 z' (xb_i h' (A 90) 0) → Ql z' h' := by
    intro z' h' f' g1 g2 g0
    obtain ⟨e1, e2, e3, e4, e5, e6, e7⟩ := g1
    have hm : xb_i h' mm = v := by
      rw [e4 mm (Ne.symm n1) (Ne.symm n2)]
      exact mH_i
    have ev : va_up (va_up (xb_i h') mm (F mm)) mm v = xb_i h' := by
      funext j
      rw [xh_up]
      split
      · next e => rw [e, hm]
      · next e => rw [xh_up, if_neg e]
    have eh : h' = mH h' (va_up (xb_i h') mm (F mm)) mm v := by
      show h' = xb_W h' (va_up (va_up (xb_i h') mm (F mm)) mm v)
      rw [ev]
      rfl
    have fo : ∀ a, a ≠ A 90 → a ≠ rw_ → va_up (xb_i h') mm (F mm) a = F a := fun a g3 g4 => by
      rw [xh_up]
      split
      · next e => rw [e]
      · next e => rw [e4 a g3 g4, mH_o e]
    have hf : f0 own h F h' (va_up (xb_i h') mm (F mm)) := by
      refine ⟨e1, e2, e3, fun a ha => ⟨e5 a (fun e => by rw [e, own90] at ha; omega), fo a (fun e => by rw [e, own90] at ha; omega) (fun e => by rw [e, a4] at ha; omega)⟩⟩
    have fk : ∀ k, (∃ e ∈ aL, e.1 = k) → k ≠ 90 → k < 200 → va_up (xb_i h') mm (F mm) (A k) = F (A k) := fun k g3 g4 g5 => fo _ (a1.ne g3 (by decide) g4) (fun e => by
      have := a1.o g3
      rw [e, a4] at this
      omega)
    have q1 : ∀ k, k ∈ aRY → (∃ e ∈ aL, e.1 = k) ∧ k ≠ 90 ∧ k < 200 := by decide
    have q2 : ∀ k, k ∈ uxA → (∃ e ∈ aL, e.1 = k) ∧ k ≠ 90 ∧ k < 200 := by decide
    have hU : rU own mm A h' (va_up (xb_i h') mm (F mm)) v DM len rl K := n_ch hX.1 hf ⟨rw_, f', a4, by rw [← eh]; exact g2⟩ a6 (a7.cg (fun k hk => fk k (q1 k hk).1 (q1 k hk).2.1 (q1 k hk).2.2) (fun _ _ => rfl)) rfl rfl
    rw [eh]
    exact hQ z' h' _ hf (fun a ha => e5 a ha) fk (by rw [xh_up, if_neg n1]; exact g0) (hX.cg hU (fun k hk => fk k (q2 k hk).1 (q2 k hk).2.1 (q2 k hk).2.2) rfl rfl rfl rfl)
  by_cases hc : z.toBitVec.toNat < 2 ^ nmw op ∧ y0.toBitVec.toNat < 2 ^ nmw op ∧ (167 ≤ op → y0.toBitVec.toNat = 0)
  · exact xr_erun hx h1 h2 a5 rfl rfl hc.1 hc.2.1 hc.2.2 (fun r h' f' g1 g2 g3 g4 g5 => key r h' f' g1 g2 (fun _ _ _ => .inl ⟨g4, g3, nI64_e g5⟩)) (fun k h' f' g1 g2 g3 g4 g5 => key 0 h' f' g1 g2 (fun _ _ _ => .inr ⟨g4, by rw [g3]; exact g5⟩))
  · exact sp_erun hx h1 h2 a5 (fun r h' f' g1 g2 => key r h' f' g1 g2 (fun k1 k2 k3 => absurd ⟨k1, k2, k3⟩ hc))
theorem n_reckon {x1 : Int32} (hX : uX own mm A h F v DM len rl K D t f b nl k o c gs T p0 E lo ν0 ν1 G V rm r) (hG : G 0 a c gs) (hr : rdP v (qb D) (a + 1) (qe D)) (h82 : v 82 = 0) (hx1 : x1.toInt = op) (hop : (qc D a).toInt % 256 = op) (ho : 69 ≤ op) (hn : ¬ nst)
    (hQ : ∀ (h' : xb_H) (F' : Nat → Nat → Int32) (v' : Nat → Int32) (z : uZ), uP own mm A DM len rl K D t f b nl k o T p0 E lo ν0 ν1 G V rm r a nst h F v h' F' v' (rwd A h F v) z → rkR b nl op a c gs (xb_l h (A 74)) z → Q (mH h' F' mm v')) : w_M_reckon mm x1 (mH h F mm v) Q := by
  obtain ⟨C, dD, hVa, hwk, hE1, hE2, hE3, hvk, hcc⟩ := hX.ai hG hop
  obtain ⟨-, -, -, -, -, -, -, -, -, -, -, -, -, -, -, -, -, C17⟩ := C
  obtain ⟨-, -, -, -, -, -, -, -, -, D17⟩ := dD
  have h192 : op < 192 := by
    rcases Nat.lt_or_ge op 192 with h9 | h9
    · exact h9
    · exfalso
      unfold wk_sh at hE3
      rw [if_pos (by omega), if_neg (by omega)] at hE3
      omega
  have hB := hX.1.B
  obtain ⟨g90, k90, -, m90⟩ := hB.g (k := 90) (kd := 10) (n := 0) (by decide)
  obtain ⟨i', c2, i1', i2', i3', i4', i5'⟩ := C17 (by omega)
  obtain ⟨i, i1, i2, i3, i4, i5, i6⟩ := sg_row op h192 ho
  have ei : i' = i := by
    rcases Nat.lt_trichotomy i' i with h9 | h9 | h9
    · have := i2 i' h9
      omega
    · exact h9
    · have := i2' i h9
      omega
  subst ei
  have hd := D17 (by omega) i' i1 i2 i3
  rw [i4, i5] at i4'
  rw [i6] at i5'
  rw [i4] at hd
  obtain ⟨t1, t2, t3, t4⟩ := sg_rng op h192 ho
  have sub : ∀ (z : Int32) (w : Int), z.toInt = 127 - w → 124 ≤ w → w ≤ 127 → (127 - z).toInt = w := fun z w hz h1 h2 => by
    rw [z_sub, hz]
    simp only [Int32.reduceToInt]
    omega
  have m90' : A 90 ≠ mm := hB.nm (by decide)
  have L21 : ∀ (v1 : Nat → Int32) (y0 : Int64), sF own A h F v h F v1 → (∀ j, j ≠ 76 → v1 j = v j) → uX own mm A h F v1 DM len rl K D t f b nl k o (sgA op :: c2) gs T p0 E lo ν0 ν1 G V rm r → gbl gs ≤ c2.length → y0.toBitVec.toNat = nVb op (xb_l h (A 74)) (b + nl + c2.length) → w_M_reckon_L21 Q mm x1 y0 (mH h F mm v1) := by
    intro v1 y0 s1 w1 hX1 hg hy0
    unfold w_M_reckon_L21
    refine sp_efirst hx1 ho h192 (fun r2 e2 _ => ⟨hB.2.1, hX1.popE (.inr (sub r2 _ e2 t1 t2)) hg (fun v2 s2 w2 hX2 _ => ⟨A 90, g90, k90, ?_⟩)⟩)
    refine n_exact hX2 hx1 ho h192 (fun z9 h3 F3 f3 fl fF fq hX3 _ => ?_)
    obtain ⟨kx, kw, k74⟩ := n_exK (v := v2) hB fl fF
    have eW : rwd A h3 F3 v2 = rwd A h F v := kw.trans ((s1.tr s2).W hB)
    have fq' : nVa (xb_l h (A 74)) (b + nl + c2.length) < 2 ^ nmw op → nVb op (xb_l h (A 74)) (b + nl + c2.length) < 2 ^ nmw op → _ := fun u1 u2 => fq u1 (by rw [hy0]; exact u2) (fun u3 => by rw [hy0]; unfold nVb; rw [if_neg (by rw [sgN_1 op h192 u3]; decide)])
    rw [hy0] at fq'
    have hB3 := hX3.1.B
    obtain ⟨g90', k90', -, -⟩ := hB3.g (k := 90) (kd := 10) (n := 0) (by decide)
    have v15 : (v2 15).toInt = (a + 1 : Nat) := by
      rw [w2 15 (by decide), w1 15 (by decide)]
      exact hr.1
    have v82 : v2 82 = 0 := by rw [w2 82 (by decide), w1 82 (by decide), h82]
    have pf : pF own mm A h F v h3 F3 v2 := ((s1.tr s2).P hB).tr ⟨⟨f3, kx⟩, fun _ _ _ _ => rfl⟩
    refine ⟨A 90, g90', k90', fun hle => ?_, fun hgt => ⟨A 90, g90', k90', fun h19 e19 => ?_⟩⟩
    · refine sp_eresult hx1 ho h192 (fun r14 e14 _ => ?_)
      have e8 := sub r14 _ e14 t3 t4
      have hl := hX.rm' i5'
      simp only [List.length_cons] at hl
      refine hX3.pushE (by rw [e8]; omega) (by omega) (fun F4 v4 s4 w4 f4 hX4 _ => ?_)
      unfold w_M_reckon_L87
      rw [e8] at hX4 s4 ⊢
      refine hQ _ _ _ (.inl (_, gs, a + 1, _)) ⟨pf.tr (s4.P hB3), (s4.W hB3).trans eW, hX4, by rw [w4 15 (by decide)]; exact v15, i5', by rw [w4 82 (by decide)]; exact v82, fun h9 => absurd h9 hn, rfl⟩ ⟨c2, i4', fun u1 u2 => ?_⟩
      rw [mH_o m90'] at hle
      rcases fq' u1 u2 with ⟨q1, -, q3⟩ | ⟨q1, q2⟩
      · exact .inr ⟨q1, by rw [xl_L, k74, q3, nmI_a ho h192]; rfl⟩
      · exfalso
        have := nmt_c (o := op) (a := nVa (xb_l h (A 74)) (b + nl + c2.length)) (c := nVb op (xb_l h (A 74)) (b + nl + c2.length))
        rw [z_le] at hle
        simp only [Int32.reduceToInt] at hle
        unfold nVa at this
        omega
    · rw [mH_I] at e19
      subst e19
      unfold w_M_reckon_L87
      rw [z_le] at hgt
      have hrg := z_rg (xb_i (mH h3 F3 mm v2) (A 90) 0)
      simp only [Int32.reduceToInt] at hgt
      have htr := hX3.trap (a := a) (nst := nst) (w := xb_i (mH h3 F3 mm v2) (A 90) 0 + 1) (fun e0 => by
        rw [z_eq, z_add] at e0
        simp only [Int32.reduceToInt] at e0
        omega)
      rw [eW] at htr
      refine hQ _ _ _ _ ⟨pf.tr htr.1, htr.2⟩ ⟨c2, i4', fun u1 u2 => ?_⟩
      rw [mH_o m90'] at hgt hrg ⊢
      rcases fq' u1 u2 with ⟨q1, q2, -⟩ | ⟨q1, q2⟩
      · rw [q2] at hgt
        exact absurd (by decide) hgt
      · have := nmt_c (o := op) (a := nVa (xb_l h (A 74)) (b + nl + c2.length)) (c := nVb op (xb_l h (A 74)) (b + nl + c2.length))
        refine .inl ⟨q1, _, ?_, rfl⟩
        rw [z_add]
        simp only [Int32.reduceToInt]
        unfold nVa at this ⊢
        omega
  unfold w_M_reckon
  refine sp_esecond hx1 ho h192 (fun r2 e2 _ => ⟨fun hneg => ?_, fun hpos => ⟨hB.2.1, ?_⟩⟩)
  · rcases e2 with ⟨e1, e2⟩ | ⟨e1, -⟩
    · rw [z_lt, e2] at hneg
      simp only [Int32.reduceToInt] at hneg
      omega
    · rw [e1] at i4' hd
      have ec : c = sgA op :: c2 := i4'
      subst ec
      have hd' : gbl gs + 1 ≤ c2.length + 1 := hd
      exact L21 v 0 sF.rf (fun _ _ => rfl) hX (by omega) (by unfold nVb; rw [if_neg (by omega)]; rfl)
  · rcases e2 with ⟨e1, e2⟩ | ⟨-, e2⟩
    · rw [e1] at i4' hd
      have ec : c = sgA op :: sgA op :: c2 := i4'
      subst ec
      have hd' : gbl gs + 2 ≤ c2.length + 1 + 1 := hd
      exact hX.popE (.inr (sub r2 _ e2 t1 t2)) (by simp only [List.length_cons]; omega) (fun v2 s2 w2 hX2 _ => L21 v2 _ s2 w2 hX2 (by omega) (by unfold nVb; rw [if_pos e1]; rfl))
    · rw [z_lt, e2] at hpos
      simp only [Int32.reduceToInt] at hpos
      omega
theorem n_constantOf {x1 : Int32} (hX : uX own mm A h F v DM len rl K D t f b nl k o c gs T p0 E lo ν0 ν1 G V rm r) (hG : G 0 a c gs) (hr : rdP v (qb D) (a + 1) (qe D)) (h82 : v 82 = 0) (hx1 : x1.toInt = op) (hop : (qc D a).toInt % 256 = op) (ho : 65 ≤ op) (ho2 : op < 69) (hn : ¬ nst)
    (hQ : ∀ (h' : xb_H) (F' : Nat → Nat → Int32) (v' : Nat → Int32) (z : uZ), uP own mm A DM len rl K D t f b nl k o T p0 E lo ν0 ν1 G V rm r a nst h F v h' F' v' (rwd A h F v) z → (∃ x : Nat, ct_B ν1 p0 E a x ∧ z = .inl ((192 - op) :: c, gs, x, va_up (xb_l h (A 74)) (b + nl + c.length) (arV (192 - op) (ktV D op a)))) → Q (mH h' F' mm v')) : w_M_constantOf mm x1 (mH h F mm v) Q := by
  obtain ⟨C, dD, hVa, hwk, hE1, hE2, hE3, hvk, hcc⟩ := hX.ai hG hop
  obtain ⟨iz, mz, bz, y1, y2, y3, y4, y5, y6, y7, y8, y9, hM, hM2, hM3⟩ := hX.dX
  obtain ⟨-, -, -, -, -, -, -, -, -, -, -, -, -, -, -, -, C16, -⟩ := C
  have hB := hX.1.B
  obtain ⟨xx, c1, c2, c3⟩ := C16 (by omega) (by omega)
  have sh : wk_sh ((qc D a).toInt % 256) = 9 + (op - 65) := by
    rw [hop]
    unfold wk_sh
    rw [if_neg (by omega), if_pos (by omega)]
    omega
  obtain ⟨q, hnr, q1, q2, q3, q4⟩ := wOK.nx hvk hVa hwk (by omega)
  obtain ⟨n1, n2, -⟩ := hnr
  have exq : xx = q := by
    have h8 := c1.2.2
    rw [(hvk.2.1 a hVa).2.2.2 (by omega)] at h8
    have := n2 (by omega)
    omega
  subst exq
  rw [sh] at n1
  have hl := hX.rm' c3
  simp only [List.length_cons] at hl
  have e8 : (192 - x1).toInt = 192 - (op : Int) := by
    rw [z_sub, hx1]
    simp only [Int32.reduceToInt]
    omega
  have L69 : ∀ (v1 : Nat → Int32) (y0 : Int64), vg v v1 → v1 17 = 0 → (v1 15).toInt = xx → y0 = ktV D op a → w_M_constantOf_L69 Q mm x1 y0 (mH h F mm v1) := by
    intro v1 y0 g1 w1 p1 hy0
    unfold w_M_constantOf_L69
    have hX1 := hX.vg g1 w1
    refine ⟨hB.2.1, hX1.pushE (by rw [e8]; omega) (by omega) (fun F4 v4 s4 w4 f4 hX4 _ => ?_)⟩
    rw [e8] at hX4 s4 ⊢
    exact hQ _ _ _ (.inl (_, gs, xx, _)) ⟨(g1.sF.tr s4).P hB, (g1.sF.tr s4).W hB, hX4, by rw [w4 15 (by decide)]; exact p1, c3, by rw [w4 82 (by decide), g1 82 (by decide) (by decide) (by decide) (by decide) (by decide)]; exact h82, fun h9 => absurd h9 hn, rfl⟩ ⟨xx, c1, by rw [xl_L, hy0]⟩
  have L22 : ∀ y0 : Int32, (y0 = 32 ∧ op = 65) ∨ (y0 = 64 ∧ op = 66) → w_M_constantOf_L22 Q mm x1 y0 mm (mH h F mm v) := by
    intro y0 hy
    unfold w_M_constantOf_L22 w_M_signed w_M_signed_L14
    have hrd : rds (qc D) y0 (if y0 = 32 then 5 else 10) (a + 1) = some xx := by
      rcases hy with ⟨e1, e2⟩ | ⟨e1, e2⟩
      · subst e1
        exact n1.2.2.2.2.2.2.2.1 (by omega)
      · subst e1
        exact n1.2.2.2.2.2.2.2.2.1 (by omega)
    rcases hy with ⟨e1, e2⟩ | ⟨e1, e2⟩
    · subst e1
      exact ⟨hB.2.1, fun h9 => absurd rfl h9, fun _ => ⟨4 + 1, m_signedK hM.rd 4 0 0 v (a + 1) rfl (by decide) (by decide) hr hX.1.z hrd (by omega) (fun v1 r1 w1 _ => L69 v1 _ r1.vg w1 r1.2.1 (by unfold ktV; rw [if_pos e2]))⟩⟩
    · subst e1
      exact ⟨hB.2.1, fun _ => ⟨9 + 1, m_signedK hM.rd 9 0 0 v (a + 1) rfl (by decide) (by decide) hr hX.1.z hrd (by omega) (fun v1 r1 w1 _ => L69 v1 _ r1.vg w1 r1.2.1 (by unfold ktV; rw [if_neg (by omega), if_pos e2]))⟩, fun h9 => absurd h9 (by decide)⟩
  have loop : ∀ (N : Nat) (y0 : Int32), y0.toInt = N → N ≤ 8 → a + 1 + N = xx → (∀ (K32 : Nat → Int32 → Int64 → Int32 → xb_H → Prop) (x2 : Int64) (x4 : Int32) (hh : xb_H), w_M_constantOf_L46 K32 Q mm x1 x2 x4 y0 x4 hh → ((¬ x1 = (67 : Int32) → w_M_constantOf_L46 K32 Q mm x1 x2 x4 8 x4 hh) ∧ (x1 = (67 : Int32) → w_M_constantOf_L46 K32 Q mm x1 x2 x4 4 x4 hh))) → ∀ (n j : Nat) (v1 : Nat → Int32) (x2 : Int64) (x4 : Int32), n + j = N → x4.toInt = j → vg v v1 → v1 17 = 0 → rdP v1 (qb D) (a + 1 + j) (qe D) → byv (qc D) n (a + 1 + j) x2 x4 = ktV D op a → w_M_constantOf_L32 Q (n + 1) mm x1 x2 x4 (mH h F mm v1) := by
    intro N y0 hy0 hN hxx hsel n
    induction n with
    | zero =>
      intro j v1 x2 x4 hj h4 g1 w1 p1 hbv
      unfold w_M_constantOf_L32
      refine hsel _ _ _ _ ?_
      unfold w_M_constantOf_L46
      refine ⟨fun _ => L69 v1 x2 g1 w1 (by rw [p1.1]; congr 1; omega) hbv, fun h9 => ?_⟩
      rw [z_le, hy0, h4] at h9
      omega
    | succ n ih =>
      intro j v1 x2 x4 hj h4 g1 w1 p1 hbv
      unfold w_M_constantOf_L32
      refine hsel _ _ _ _ ?_
      unfold w_M_constantOf_L46
      refine ⟨fun h9 => ?_, fun _ => ⟨hB.2.1, ?_⟩⟩
      · rw [z_le, hy0, h4] at h9
        omega
      · refine m_next_k hM.rd p1 w1 (by omega) (fun v2 r2 w2 _ v5 e5 => ?_)
        exact ih (j + 1) v2 v5 (x4 + 1) (by omega) (z_inc h4 (by omega)) (g1.tr r2.vg) w2 (r2.P p1) (by rw [e5]; exact hbv)
  unfold w_M_constantOf
  refine ⟨fun h66 => ?_, fun h66 => ⟨fun h65 => L22 64 (.inr ⟨rfl, ?_⟩), fun h65 => L22 32 (.inl ⟨rfl, ?_⟩)⟩⟩
  · rw [z_lt, hx1] at h66
    simp only [Int32.reduceToInt] at h66
    rcases (by omega : op = 67 ∨ op = 68) with e | e
    · have hq := n1.2.2.2.2.2.2.2.2.2.1 (by omega)
      exact ⟨5, loop 4 4 rfl (by decide) (by omega) (fun K32 x2 x4 hh hw => ⟨fun h9 => absurd (by rw [z_eq, hx1, e]; rfl) h9, fun _ => hw⟩) 4 0 v 0 0 rfl rfl vg.rf hX.1.z hr (by unfold ktV; rw [if_neg (by omega), if_neg (by omega), if_pos e])⟩
    · have hq := n1.2.2.2.2.2.2.2.2.2.2.1 (by omega)
      exact ⟨9, loop 8 8 rfl (by decide) (by omega) (fun K32 x2 x4 hh hw => ⟨fun _ => hw, fun h9 => by rw [z_eq, hx1, e] at h9; exact absurd h9 (by decide)⟩) 8 0 v 0 0 rfl rfl vg.rf hX.1.z hr (by unfold ktV; rw [if_neg (by omega), if_neg (by omega), if_neg (by omega)])⟩
  · rw [z_lt, hx1] at h66
    have : op ≠ 65 := fun e => h65 (by rw [z_eq, hx1, e]; rfl)
    simp only [Int32.reduceToInt] at h66
    omega
  · rw [z_eq, hx1] at h65
    simp only [Int32.reduceToInt] at h65
    omega
end MRK
