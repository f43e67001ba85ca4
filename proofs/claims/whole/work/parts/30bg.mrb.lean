-- the reference: a run branches
/-- what comes of an instruction: types, what is open, place, values / it leaves its call, values / a trap -/
abbrev uZ : Type := (List Int × List gF × Nat × (Nat → Int64)) ⊕ ((Nat → Int64) ⊕ Int32)
/-- what an instruction leaves behind, ahead of the place being noted: still in its call, or it left, or a trap -/
def uM (own : Nat → Nat) (mm : Nat) (A : Nat → Nat) (DM : Nat → zM) (len rl K : Nat) (D : zM) (t f b nl k o : Nat) (T p0 E : Nat) (lo ν0 ν1 : Nat → Int32) (G : ctG) (V : Nat → Prop) (rm : Int) (r : List cX) (a : Nat) (nst : Prop) (h' : xb_H) (F' : Nat → Nat → Int32) (v' : Nat → Int32) (z : uZ) : Prop := match z with
  | .inl (c', gs', a', w) => uX own mm A h' F' v' DM len rl K D t f b nl k o c' gs' T p0 E lo ν0 ν1 G V rm r ∧ (v' 15).toInt = a' ∧ G 0 a' c' gs' ∧ v' 82 = 0 ∧ (nst → a < a') ∧ xb_l h' (A 74) = w
  | .inr (.inl w) => rU own mm A h' F' v' DM len rl K ∧ v' 82 = 0 ∧ (v' 68).toInt = k ∧ ((v' 76).toInt = (b + (tp (tRt D t)).length : Nat) ∧ (v' 81).toInt = o) ∧ (r ≠ [] → RC (fun k => F' (A k)) v' DM (rtC (tRt D t) r) [] (b + (tp (tRt D t)).length) o) ∧ xb_l h' (A 74) = w
  | .inr (.inr κ) => rU own mm A h' F' v' DM len rl K ∧ v' 82 = κ ∧ κ ≠ 0 ∧ k < 200 ∧ (v' 68).toInt = (k + 1 : Nat) ∧ (F' (A 69) k).toInt = f ∧ f < vN v' 43
/-- the call is left: the values -/
def leW (D : zM) (t b : Nat) (w : Nat → Int64) (j : Nat) : Nat → Int64 := if tRt D t = 64 then w else va_up w b (arV (tRt D t) (w j))
/-- a branch to label i: the outcome -/
def brR (D : zM) (t b nl : Nat) (B : ctN) (c : List Int) (gs : List gF) (w : Nat → Int64) (i : Nat) (z : uZ) : Prop :=
  (i = gs.length ∧ z = .inr (.inl (leW D t b w (b + nl + c.length - 1)))) ∨ ∃ (o1 : Nat) (bl : List Int), gs[i]? = some (o1, bl) ∧ (((qc D o1).toInt = 3 ∧ z = .inl (bl, gs.drop i, o1 + 2, w)) ∨ ((qc D o1).toInt ≠ 3 ∧ ∃ e x : Nat, B (o1 + 1) e ∧ (((qc D e).toInt = 5 ∧ B e x) ∨ ((qc D e).toInt ≠ 5 ∧ x = e)) ∧ z = .inl (tp (qc D (o1 + 1)).toInt ++ bl, gs.drop (i + 1), x + 1, if (qc D (o1 + 1)).toInt = 64 then w else va_up w (b + nl + bl.length) (arV (qc D (o1 + 1)).toInt (w (b + nl + c.length - 1))))))
def uP (own : Nat → Nat) (mm : Nat) (A : Nat → Nat) (DM : Nat → zM) (len rl K : Nat) (D : zM) (t f b nl k o : Nat) (T p0 E : Nat) (lo ν0 ν1 : Nat → Int32) (G : ctG) (V : Nat → Prop) (rm : Int) (r : List cX) (a : Nat) (nst : Prop) (h : xb_H) (F : Nat → Nat → Int32) (v : Nat → Int32) (h' : xb_H) (F' : Nat → Nat → Int32) (v' : Nat → Int32) (w : rWd) (z : uZ) : Prop :=
  pF own mm A h F v h' F' v' ∧ rwd A h' F' v' = w ∧ uM own mm A DM len rl K D t f b nl k o T p0 E lo ν0 ν1 G V rm r a nst h' F' v' z
section MRB
variable {own : Nat → Nat} {mm m i ip k f t b nl o top q a o1 : Nat} {A : Nat → Nat} {h h' h2 : xb_H} {F F' F2 : Nat → Nat → Int32} {v v' v2 : Nat → Int32} {D : zM} {DM : Nat → zM} {len rl K : Nat} {Q : xb_H → Prop} {Ql : Int64 → xb_H → Prop} {φ φ' : Nat → Nat → Int32} {ν ν' : Nat → Int32} {c c' ex pre : List Int} {gs g1 : List gF} {T p0 E : Nat} {lo ν0 ν1 cb : Nat → Int32} {G : ctG} {V : Nat → Prop} {rm y res : Int} {r : List cX} {nst : Prop} {x : Nat × Option Nat}
theorem sp_at {α : Type} : ∀ {l : List α} {i : Nat} {y : α}, l[i]? = some y → l = l.take i ++ y :: l.drop (i + 1) ∧ (l.take i).length = i ∧ i < l.length
  | [], _, _, h => by simp at h
  | z :: l, 0, y, h => by
    simp only [List.getElem?_cons_zero, Option.some.injEq] at h
    subst h
    exact ⟨rfl, rfl, by simp⟩
  | z :: l, i + 1, y, h => by
    simp only [List.getElem?_cons_succ] at h
    obtain ⟨h1, h2, h3⟩ := sp_at h
    refine ⟨?_, by simp only [List.take_succ_cons, List.length_cons]; omega, by simp only [List.length_cons]; omega⟩
    simp only [List.take_succ_cons, List.drop_succ_cons, List.cons_append]
    congr 1
theorem gOK.at' {h0 o0 : Nat} : ∀ {gs : List gF} {i : Nat} {x : gF}, gOK φ cb V h0 o0 gs → gs[i]? = some x → V x.1 ∧ wk_sh ((cb x.1).toInt % 256) = 1 ∧ ((φ 77 (o0 + gs.length - i)).toInt = 3 ↔ (cb x.1).toInt = 3) ∧ ((cb x.1).toInt = 3 → (φ 78 (o0 + gs.length - i)).toInt = (x.1 + 2 : Nat)) ∧ (φ 79 (o0 + gs.length - i)).toInt = (if (cb x.1).toInt = 3 then 64 else (cb (x.1 + 1)).toInt) ∧ (φ 80 (o0 + gs.length - i)).toInt = (h0 + x.2.length : Nat)
  | [], _, _, _, h => by simp at h
  | z :: l, 0, x, hg, h => by
    simp only [List.getElem?_cons_zero, Option.some.injEq] at h
    subst h
    rw [show o0 + (z :: l).length - 0 = o0 + 1 + l.length by simp only [List.length_cons]; omega]
    exact hg.1
  | z :: l, i + 1, x, hg, h => by
    simp only [List.getElem?_cons_succ] at h
    rw [show o0 + (z :: l).length - (i + 1) = o0 + l.length - i by simp only [List.length_cons]; omega]
    exact gOK.at' hg.2 h
theorem gOK.suf {h0 o0 : Nat} : ∀ {g1 : List gF}, gOK φ cb V h0 o0 (g1 ++ gs) → gOK φ cb V h0 o0 gs
  | [], h => h
  | _ :: _, h => gOK.suf h.2
theorem tyS.suf {w : Nat → Int32} {p : Nat} : ∀ {ex : List Int}, tyS w p (ex ++ c) → tyS w p c
  | [], h => h
  | _ :: _, h => tyS.suf h.2
/-- what is open and the types above are dropped -/
theorem uX.cut (hX : uX own mm A h F v DM len rl K D t f b nl k o (ex ++ c) (g1 ++ gs) T p0 E lo ν0 ν1 G V rm r) (hv : ∀ j, j ∉ [14, 15, 16, 17, 18, 20, 76, 81, 82, 96] → v' j = v j) (hz : v' 17 = 0) (h76 : (v' 76).toInt = (b + nl + c.length : Nat)) (h81 : (v' 81).toInt = (o + 1 + gs.length : Nat)) : uX own mm A h F v' DM len rl K D t f b nl k o c gs T p0 E lo ν0 ν1 G V rm r := by
  obtain ⟨a1, ⟨l1, l2, l3, l4, l5, l6, l7, l8⟩, ⟨a3, a4, a5⟩, a6, a7, ⟨a8, a9, a10⟩, a11⟩ := hX
  have e43 : vN v' 43 = vN v 43 := by
    unfold vN
    rw [hv 43 (by decide)]
  simp only [List.length_append] at a11 l8
  exact ⟨a1.sF ⟨⟨f0.rf, fun _ _ => rfl, id⟩, fun _ _ => rfl, fun j hj => hv j (fun h9 => hj ((by decide : ∀ j, j ∈ [14, 15, 16, 17, 18, 20, 76, 81, 82, 96] → j ∈ rnV) j h9))⟩ hz (by rw [hv 94 (by decide)]; exact a1.W1.2.1.2.2), ⟨l1, l2, l3, l4, l5.suf, l6, l7.suf, by omega⟩, ⟨a3, a4, by rw [e43]; exact a5⟩, a6.fr rfl rfl rfl e43 (fun _ _ _ _ => rfl) (fun _ _ => rfl) (fun _ _ _ _ => rfl), a7, ⟨by rw [hv 68 (by decide)]; exact a8, h76, h81⟩, by omega⟩
/-- the module of the latest call -/
theorem uX.dX (hX : uX own mm A h F v DM len rl K D t f b nl k o c gs T p0 E lo ν0 ν1 G V rm r) : ∃ i m b' : Nat, (F (A 44) f).toInt = i ∧ i < 24 ∧ i < vN v 30 ∧ (F (A 31) i).toInt = m ∧ m < vN v 5 ∧ (F (A 45) f).toInt = b' ∧ b' < qt D 3 ∧ f < 8192 ∧ D = DM m ∧ mX own mm A h F m D ∧ t < qt D 1 ∧ qe D ≤ 12000 := by
  obtain ⟨a1, ⟨l1, l2, l3, l4, l5, l6, l7, l8⟩, ⟨a3, a4, a5⟩, a6, a7, ⟨a8, a9, a10⟩, a11⟩ := hX
  obtain ⟨i, m, b', y1, y2, y3, y4, y5, y6, y7, y8, y9, -⟩ := a1.fn a5
  have e : D = DM m := a3.symm.trans y9
  subst e
  have hX := a1.X y5
  exact ⟨i, m, b', y1, y2, y3, y4, y5, y6, y7, y8, rfl, hX, l3.1.2.2.2.2.1, hX.2.2.2.2.1⟩
/-- reading on comes to where a branch goes -/
theorem ra_x (hV : vok cb ν0 ν1 p0 E G V) (h1 : V o1) (hs : wk_sh ((cb o1).toInt % 256) = 1) (e1 : x.1 = o1) (hx : ∀ e, x.2 = some e → (ν0 (o1 + 1)).toInt = e ∧ (cb e).toInt = 5 ∧ V e) (hr : roE cb ν0 V 0 x 0 q) (ha : ct_ra cb G (ct_B ν1 p0 E) o1 c gs) : G 0 (q + 1) c gs ∧ ∃ e : Nat, ct_B ν1 p0 E (o1 + 1) e ∧ (((cb e).toInt = 5 ∧ ct_B ν1 p0 E e q) ∨ ((cb e).toInt ≠ 5 ∧ q = e)) := by
  obtain ⟨e, y, g0, g2, g3⟩ := ha
  have g1 := g0.2.2
  have n1 := (hV.2.1 o1 h1).2.2.1 hs
  rw [n1] at g1
  have five : ∀ p1 : Nat, (cb p1).toInt = 5 → V p1 → ν1 p1 = ν0 p1 := fun p1 h5 hv => (hV.2.1 p1 hv).2.2.2 (.inl (by rw [h5]; decide))
  have two : ∀ p1 : Nat, (ν0 (o1 + 1)).toInt = p1 → (cb p1).toInt = 5 → V p1 → (ν0 p1).toInt = q → y = q := fun p1 z1 z2 z3 z4 => by
    have e9 : e = p1 := by omega
    subst e9
    rcases g2 with ⟨-, -, -, g4⟩ | ⟨g4, -⟩
    · rw [five e z2 z3] at g4
      omega
    · exact absurd z2 g4
  suffices hyq : y = q by
    subst hyq
    exact ⟨g3, e, g0, g2⟩
  obtain ⟨r1, ⟨-, r2, r3⟩ | ⟨o', p1, r2, r3, r4, r5, r6⟩⟩ := hr
  · obtain ⟨xo, xe⟩ := x
    cases xe with
    | none =>
      have e0 : xo = o1 := e1
      subst e0
      have r3' : (ν0 (xo + 1)).toInt = q := r3
      have e9 : e = q := by omega
      subst e9
      rcases g2 with ⟨g4, -⟩ | ⟨-, g4⟩
      · omega
      · exact g4
    | some e2 =>
      obtain ⟨z1, z2, z3⟩ := hx e2 rfl
      exact two e2 z1 z2 z3 r3
  · rw [r2] at e1
    have e1' : o' = o1 := e1
    subst e1'
    rcases r6 with ⟨r6, -⟩ | ⟨-, -, r7, -⟩
    · exact absurd rfl r6
    · exact two p1 r3 r4 r5 r7
theorem xl_L {d j : Nat} {x : Int64} : xb_l (xb_L h d j x) d = va_up (xb_l h d) j x := by
  rw [show xb_l (xb_L h d j x) = va_up (xb_l h) d (va_up (xb_l h d) j x) from rfl, xh_up, if_pos rfl]
theorem leW_x {d : Nat} : xb_l (if tRt D t = 64 then h else xb_L h d b (arV (tRt D t) (xb_l h d (b + nl + c.length)))) d = leW D t b (xb_l h d) (b + nl + (tp (tRt D t) ++ c).length - 1) := by
  unfold leW
  by_cases h9 : tRt D t = 64
  · rw [if_pos h9, if_pos h9]
  · rw [if_neg h9, if_neg h9, xl_L, tp_ne h9]
    rfl
/-- where a condition fails -/
theorem rb_x {x2 r1 : Int32} (hV : vok cb ν0 ν1 p0 E G V) (h1 : V o1) (hs : wk_sh ((cb o1).toInt % 256) = 1) (hx2 : x2 ≠ 0) (hr : roE cb ν0 V x2 (o1, none) r1 q) (ha : ct_rb cb G (ct_B ν1 p0 E) o1 c gs) : ct_B ν1 p0 E (o1 + 1) q ∧ ((r1 = 0 ∧ (cb q).toInt ≠ 5 ∧ G 0 (q + 1) c gs) ∨ (r1 = 1 ∧ (cb q).toInt = 5 ∧ G 0 (q + 1) c ((o1, c) :: gs))) := by
  obtain ⟨e, g0, g2⟩ := ha
  have g1 := g0.2.2
  have n1 := (hV.2.1 o1 h1).2.2.1 hs
  rw [n1] at g1
  obtain ⟨-, ⟨r0, r2, r3⟩ | ⟨o', p1, r2, r3, r4, r5, r6⟩⟩ := hr
  · have r3' : (ν0 (o1 + 1)).toInt = q := r3
    have e9 : e = q := by omega
    subst e9
    rcases g2 with ⟨g4, -⟩ | ⟨-, g4⟩
    · omega
    · exact ⟨g0, .inl ⟨r0, by omega, g4⟩⟩
  · simp only [Prod.mk.injEq, and_true] at r2
    subst r2
    rcases r6 with ⟨-, r7, r8⟩ | ⟨r7, -⟩
    · subst r8
      have e9 : e = q := by omega
      subst e9
      rcases g2 with ⟨-, g4⟩ | ⟨g4, -⟩
      · exact ⟨g0, .inr ⟨r7, r4, g4⟩⟩
      · exact absurd r4 g4
    · exact absurd r7 hx2
/-- at the end of a first part -/
theorem rc_x (hV : vok cb ν0 ν1 p0 E G V) (h1 : V a) (h5 : (cb a).toInt = 5) (hr : roE cb ν0 V 0 (o1, some a) 0 q) (hB : ct_B ν1 p0 E (o1 + 1) a) (ha : ct_rc cb G (ct_B ν1 p0 E) o1 c gs) : G 0 q c gs ∧ ct_B ν1 p0 E a q := by
  obtain ⟨e, y, ⟨-, -, g1⟩, g2, g5, g4⟩ := ha
  have g3 := g5.2.2
  have e9 : e = a := by
    have := hB.2.2
    omega
  subst e9
  rw [(hV.2.1 e h1).2.2.2 (.inl (by rw [h5]; decide))] at g3
  obtain ⟨-, ⟨-, -, r3⟩ | ⟨o', p1, r2, -⟩⟩ := hr
  · have r3' : (ν0 e).toInt = q := r3
    have : y = q := by omega
    rw [← this]
    exact ⟨g4, g5⟩
  · cases r2
theorem roE.r0 {x2 r1 : Int32} (hx : x2 = 0) (hr : roE cb ν0 V x2 x r1 q) : r1 = 0 := by
  obtain ⟨-, ⟨r0, -⟩ | ⟨o', p1, -, -, -, -, ⟨r1, -⟩ | ⟨-, r1, -⟩⟩⟩ := hr
  · exact r0
  · exact absurd hx r1
  · exact r1
theorem vu_id {j : Nat} {w : Int32} (h9 : v j = w) : va_up v j w = v := by
  funext i
  rw [xh_up]
  split
  · next e => rw [e, h9]
  · rfl
theorem uX.branch {x1 : Int64} {w : Int} (hX : uX own mm A h F v DM len rl K D t f b nl k o c gs T p0 E lo ν0 ν1 G V rm r) (h82 : v 82 = 0) (hx : x1.toInt = i) (hb : ct_br (qc D) (tRt D t) G (ct_B ν1 p0 E) i w c gs) (hd : gbl gs + (tp (labT (qc D) (tRt D t) gs i)).length ≤ c.length) (hp : i < gs.length → rdP v (qb D) q (qe D) ∧ V q ∧ wOK (qc D) ν0 E V q gs) (hn : ¬ nst)
    (hQ : ∀ (h' : xb_H) (F' : Nat → Nat → Int32) (v' : Nat → Int32) (z : uZ), uP own mm A DM len rl K D t f b nl k o T p0 E lo ν0 ν1 G V rm r a nst h F v h' F' v' (rwd A h F v) z → brR D t b nl (ct_B ν1 p0 E) c gs (xb_l h (A 74)) i z → Q (mH h' F' mm v')) : w_M_branch mm x1 (mH h F mm v) Q := by
  obtain ⟨iz, mz, bz, y1, y2, y3, y4, y5, y6, y7, y8, y9, hM, hM2, hM3⟩ := hX.dX
  obtain ⟨a1, ⟨l1, l2, l3, l4, l5, l6, l7, l8⟩, ⟨a3, a4, a5⟩, a6, a7, ⟨a8, a9, a10⟩, a11⟩ := id hX
  have hB := a1.B
  have ob := a6.ob
  obtain ⟨B1, B2, B3, B4, B5, B6, B7, B8, B9⟩ := l3.1
  obtain ⟨g73, k73, n73, m73⟩ := hB.kx (k := 73) (kd := 102) (n := 200) (by decide) (by decide)
  obtain ⟨g77, k77, n77, m77⟩ := hB.kx (k := 77) (kd := 102) (n := 40400) (by decide) (by decide)
  obtain ⟨g78, k78, n78, m78⟩ := hB.kx (k := 78) (kd := 102) (n := 40400) (by decide) (by decide)
  obtain ⟨g79, k79, n79, m79⟩ := hB.kx (k := 79) (kd := 102) (n := 40400) (by decide) (by decide)
  obtain ⟨g80, k80, n80, m80⟩ := hB.kx (k := 80) (kd := 102) (n := 40400) (by decide) (by decide)
  have hi : i ≤ gs.length := by
    rcases hb with ⟨h1, -⟩ | ⟨o1, bl, ex, h1, -⟩
    · omega
    · have := (sp_at h1).2.2
      omega
  have e73 : (F (A 73) k).toInt = o := l2.2.2.2
  have e68 : (v 68 - 1).toInt = k := by
    rw [z_sub, a8]
    simp only [Int32.reduceToInt]
    omega
  have cl : (v 68 - 1).toNatClampNeg = k := by rw [z_cl, e68]; omega
  have in73 : vp_in (v 68 - 1) (xb_n h (A 73)) := by rw [z_in, e68, n73]; omega
  have hlt : x1 < Int32.toInt64 (v 81 - F (A 73) k) := by
    rw [Z_lt, Z_of32, z_sub, a10, e73, hx]
    omega
  have z94 : v 94 = 0 := a1.W1.2.1.2.2
  have ty : ((v 81 - 1) - Int64.toInt32 x1).toInt = (o + gs.length - i : Nat) := by
    rw [z_sub, z_sub, a10, z_l2i hx (by omega)]
    simp only [Int32.reduceToInt]
    omega
  -- to a target within the call
  have inner : ∀ (y0 : Int32) (o1 : Nat) (bl ex : List Int), y0.toInt = (o + gs.length - i : Nat) → i < gs.length → gs[i]? = some (o1, bl) → (((qc D o1).toInt = 3 ∧ c = ex ++ bl ∧ G 0 (o1 + 2) bl (gs.drop i)) ∨ ((qc D o1).toInt ≠ 3 ∧ c = tp (qc D (o1 + 1)).toInt ++ (ex ++ bl) ∧ G 1 o1 (tp (qc D (o1 + 1)).toInt ++ bl) (gs.drop (i + 1)))) → ∃ b9 : Nat, (xb_r (mH h F mm v) mm 79) = some b9 ∧ xb_k (mH h F mm v) b9 = 102 ∧ vp_in y0 (xb_n (mH h F mm v) b9) ∧ ∀ v12 : Int32, v12 = (xb_i (mH h F mm v) b9 (Int32.toNatClampNeg y0)) → ((¬ v12 = (64 : Int32) → w_M_pop mm v12 (mH h F mm v) (fun (r15 : Int64) (h14 : xb_H) => xb_ext (mH h F mm v) h14 → w_M_branch_L119 Q mm y0 v12 r15 h14)) ∧ (v12 = (64 : Int32) → w_M_branch_L119 Q mm y0 v12 0 (mH h F mm v))) := by
    intro y0 o1 bl ex hy0 hil hgi hc
    obtain ⟨t1, t2, t3, t4, t5, t6⟩ := l7.at' hgi
    obtain ⟨s1, s2, -⟩ := sp_at hgi
    have s3 : gs.take i ++ gs.drop i = gs := List.take_append_drop i gs
    have s4 : gs.take (i + 1) ++ gs.drop (i + 1) = gs := List.take_append_drop (i + 1) gs
    have s5 : (gs.drop (i + 1)).length = gs.length - (i + 1) := List.length_drop
    have s6 : (gs.drop i).length = gs.length - i := List.length_drop
    have cy : y0.toNatClampNeg = o + gs.length - i := by rw [z_cl, hy0]; omega
    have iny : ∀ A' : Nat, xb_n h A' = 40400 → vp_in y0 (xb_n h A') := fun A' hA' => by rw [z_in, hy0, hA']; omega
    have elb : labT (qc D) (tRt D t) gs i = if (qc D o1).toInt = 3 then 64 else (qc D (o1 + 1)).toInt := by
      unfold labT
      rw [hgi]
    rw [elb] at hd
    -- behind the value that was taken
    have L119 : ∀ (v1 : Nat → Int32) (x5 : Int32) (z0 : Int64) (c2 : List Int), x5.toInt = (if (qc D o1).toInt = 3 then 64 else (qc D (o1 + 1)).toInt) → sF own A h F v h F v1 → (∀ j, j ≠ 76 → v1 j = v j) → uX own mm A h F v1 DM len rl K D t f b nl k o c2 gs T p0 E lo ν0 ν1 G V rm r → (∃ ex, c2 = ex ++ bl) → ((qc D o1).toInt ≠ 3 → (qc D (o1 + 1)).toInt ≠ 64 → z0 = xb_l h (A 74) (b + nl + c.length - 1)) → w_M_branch_L119 Q mm y0 x5 z0 (mH h F mm v1) := by
      intro v1 x5 z0 c2 hx5 sv1 hv1 hX1 ⟨ex2, ec2⟩ hz0
      subst ec2
      unfold w_M_branch_L119
      refine ⟨hB.2.1, A 80, g80, k80, iny _ n80, fun h5 e5 => ?_⟩
      rw [mH_o m80, cy, mH_I] at e5
      subst e5
      refine ⟨A 77, g77, k77, iny _ n77, fun hn3 => ?_, fun h3 => ?_⟩
      · -- not a loop: read on
        rw [mH_o m77, cy] at hn3
        have n3 : (qc D o1).toInt ≠ 3 := fun e9 => hn3 (by rw [z_eq]; exact t3.mpr e9)
        rw [if_neg n3] at hx5
        obtain ⟨p1, p2, ⟨mw, st, w1, w2, w3⟩⟩ := hp hil
        have sl : st.length = gs.length := by
          have := congrArg List.length w2
          simpa using this
        obtain ⟨xs, hxs⟩ : ∃ xs, st[i]? = some xs := ⟨st[i]'(by omega), List.getElem?_eq_getElem (by omega)⟩
        have ex1 : xs.1 = o1 := by
          have := congrArg (fun l => l[i]?) w2
          simp only [List.getElem?_map, hxs, hgi, Option.map_some, Option.some.injEq] at this
          exact this
        obtain ⟨u1, u2, -⟩ := sp_at hxs
        have va : ∀ j, j ≠ 76 → va_up v1 76 (F (A 80) (o + gs.length - i)) j = v j := fun j hj => by rw [xh_up, if_neg hj, hv1 j hj]
        have pr : rdP (va_up v1 76 (F (A 80) (o + gs.length - i))) (qb D) q (qe D) := ⟨by rw [va 15 (by decide)]; exact p1.1, by rw [va 16 (by decide)]; exact p1.2.1, p1.2.2⟩
        rw [mH_i, va 81 (by decide)]
        rw [u1] at w1
        refine n_readOn (pre := st.take i) (x := xs) (rest := st.drop (i + 1)) hM.rd B2 B8 hM.2.2.1 pr (by rw [va 17 (by decide)]; exact a1.z) p2 w1 ?_ (by rw [← u1, sl]; exact l8) (fun v2 r1 e1 q1 q2 q3 q4 q5 q6 q7 _ h12 e12 => ?_)
        · rw [z_sub, a10, hy0, u2]
          omega
        · rw [mH_I] at e12
          subst e12
          have er := q7.r0 rfl
          subst er
          rcases hc with ⟨hc, -⟩ | ⟨-, hc1, hc2⟩
          · exact absurd hc n3
          obtain ⟨g1, en1, en2, en3⟩ := ra_x B8 t1 t2 ex1 (fun e he => by
            have := w3 xs (by rw [u1]; exact List.mem_append_right _ List.mem_cons_self) e he
            rw [ex1] at this
            exact this) q7 (B7.2.2.1 _ _ _ hc2)
          -- the numbers now
          have v3 : ∀ j, j ∉ [14, 15, 16, 17, 18, 20, 76, 81, 82, 96] → va_up v2 81 y0 j = v1 j := fun j hj => by
            have g : ∀ i, i ∈ [14, 15, 16, 17, 18, 20, 76, 81, 82, 96] → j ≠ i := fun i hi e9 => hj (e9 ▸ hi)
            rw [xh_up, if_neg (g 81 (by decide)), q1 j (fun h9 => hj ((by decide : ∀ j, j ∈ [15, 17, 18, 96] → j ∈ [14, 15, 16, 17, 18, 20, 76, 81, 82, 96]) j h9)), xh_up, if_neg (g 76 (by decide))]
          have e76 : (va_up v2 81 y0 76).toInt = (b + nl + bl.length : Nat) := by
            rw [xh_up, if_neg (by decide), q1 76 (by decide), xh_up, if_pos rfl]
            exact t6
          have e81 : (va_up v2 81 y0 81).toInt = (o + 1 + (gs.drop (i + 1)).length : Nat) := by
            rw [xh_up, if_pos rfl, hy0, s5]
            congr 1
            omega
          have hX1' : uX own mm A h F v1 DM len rl K D t f b nl k o (ex2 ++ bl) (gs.take (i + 1) ++ gs.drop (i + 1)) T p0 E lo ν0 ν1 G V rm r := by rw [s4]; exact hX1
          have hX2 := hX1'.cut v3 (by rw [xh_up, if_neg (by decide)]; exact q2) e76 e81
          have v82 : va_up v2 81 y0 82 = 0 := by rw [xh_up, if_neg (by decide), q1 82 (by decide), va 82 (by decide), h82]
          have v15 : (va_up v2 81 y0 15).toInt = (e1 + 1 : Nat) := by
            rw [xh_up, if_neg (by decide)]
            exact q4.1
          have sv2 : sF own A h F v h F (va_up v2 81 y0) := sv1.tr ⟨⟨f0.rf, fun _ _ => rfl, id⟩, fun _ _ => rfl, fun j hj => v3 j (fun h9 => hj ((by decide : ∀ j, j ∈ [14, 15, 16, 17, 18, 20, 76, 81, 82, 96] → j ∈ rnV) j h9))⟩
          refine ⟨fun h64 => ?_, fun h64 => ?_⟩
          · unfold w_M_branch_L199
            have e64 : (qc D (o1 + 1)).toInt = 64 := by
              rw [← hx5, h64]
              rfl
            rw [e64] at g1
            exact hQ _ _ _ (.inl (bl, gs.drop (i + 1), e1 + 1, xb_l h (A 74))) ⟨sv2.P hB, sv2.W hB, hX2, v15, g1, v82, fun h9 => absurd h9 hn, rfl⟩ (.inr ⟨o1, bl, hgi, .inr ⟨n3, en1, e1, en2, en3, by rw [e64, if_pos rfl]; rfl⟩⟩)
          · have n64 : (qc D (o1 + 1)).toInt ≠ 64 := fun e9 => h64 (by rw [z_eq, hx5, e9]; rfl)
            rw [tp_ne n64] at g1
            have hc1' := congrArg List.length hc1
            rw [tp_ne n64] at hc1'
            simp only [List.length_append, List.length_cons, List.length_nil] at hc1'
            refine hX2.pushE (by rw [hx5]; exact hM.2.2.1 _) (by omega) (fun F3 v4 s4 w4 f4 hX4 _ => ?_)
            unfold w_M_branch_L199
            rw [hx5] at hX4 s4 ⊢
            exact hQ _ _ _ (.inl (_, gs.drop (i + 1), e1 + 1, _)) ⟨(sv2.tr s4).P hB, (sv2.tr s4).W hB, hX4, by rw [w4 15 (by decide)]; exact v15, g1, by rw [w4 82 (by decide)]; exact v82, fun h9 => absurd h9 hn, rfl⟩ (.inr ⟨o1, bl, hgi, .inr ⟨n3, en1, e1, en2, en3, by rw [tp_ne n64, if_neg n64, xl_L, ← hz0 n3 n64]; rfl⟩⟩)
      · -- a loop
        rw [mH_o m77, cy] at h3
        have e3 : (qc D o1).toInt = 3 := t3.mp (by show (F (A 77) _).toInt = 3; rw [h3]; rfl)
        intro h16 e16
        rw [mH_I] at e16
        subst e16
        refine ⟨A 78, g78, k78, iny _ n78, fun h20 e20 => ?_⟩
        rw [mH_o m78, cy, mH_I] at e20
        subst e20
        unfold w_M_branch_L199
        rcases hc with ⟨-, hc1, hc2⟩ | ⟨hc, -⟩
        · have v3 : ∀ j, j ∉ [14, 15, 16, 17, 18, 20, 76, 81, 82, 96] → va_up (va_up (va_up v1 76 (F (A 80) (o + gs.length - i))) 81 (y0 + 1)) 15 (F (A 78) (o + gs.length - i)) j = v1 j := fun j hj => by
            have g : ∀ i, i ∈ [14, 15, 16, 17, 18, 20, 76, 81, 82, 96] → j ≠ i := fun i hi e9 => hj (e9 ▸ hi)
            rw [xh_up, if_neg (g 15 (by decide)), xh_up, if_neg (g 81 (by decide)), xh_up, if_neg (g 76 (by decide))]
          have hX1' : uX own mm A h F v1 DM len rl K D t f b nl k o (ex2 ++ bl) (gs.take i ++ gs.drop i) T p0 E lo ν0 ν1 G V rm r := by rw [s3]; exact hX1
          have hX2 := hX1'.cut v3 (by rw [xh_up, if_neg (by decide), xh_up, if_neg (by decide), xh_up, if_neg (by decide)]; exact hX1.1.z) (by rw [xh_up, if_neg (by decide), xh_up, if_neg (by decide), xh_up, if_pos rfl]; exact t6) (by
            rw [xh_up, if_neg (by decide), xh_up, if_pos rfl, z_inc hy0 (by omega), s6]
            congr 1
            omega)
          refine hQ _ _ _ (.inl (bl, gs.drop i, o1 + 2, xb_l h (A 74))) ⟨(sv1.tr ⟨⟨f0.rf, fun _ _ => rfl, id⟩, fun _ _ => rfl, fun j hj => v3 j (fun h9 => hj ((by decide : ∀ j, j ∈ [14, 15, 16, 17, 18, 20, 76, 81, 82, 96] → j ∈ rnV) j h9))⟩).P hB, (sv1.tr ⟨⟨f0.rf, fun _ _ => rfl, id⟩, fun _ _ => rfl, fun j hj => v3 j (fun h9 => hj ((by decide : ∀ j, j ∈ [14, 15, 16, 17, 18, 20, 76, 81, 82, 96] → j ∈ rnV) j h9))⟩).W hB, hX2, by rw [xh_up, if_pos rfl]; exact t4 e3, hc2, ?_, fun h9 => absurd h9 hn, rfl⟩ (.inr ⟨o1, bl, hgi, .inl ⟨e3, rfl⟩⟩)
          rw [xh_up, if_neg (by decide), xh_up, if_neg (by decide), xh_up, if_neg (by decide), hv1 82 (by decide), h82]
        · exact absurd e3 hc
    refine ⟨A 79, g79, k79, iny _ n79, fun v12 e12 => ?_⟩
    rw [mH_o m79, cy] at e12
    have h12 : v12.toInt = (if (qc D o1).toInt = 3 then 64 else (qc D (o1 + 1)).toInt) := by rw [e12]; exact t5
    refine ⟨fun h64 => ?_, fun h64 => ?_⟩
    · have n64 : (if (qc D o1).toInt = 3 then (64 : Int) else (qc D (o1 + 1)).toInt) ≠ 64 := fun e9 => h64 (by rw [z_eq, h12, e9]; rfl)
      have n3 : (qc D o1).toInt ≠ 3 := fun e9 => by rw [if_pos e9] at n64; exact n64 rfl
      rw [if_neg n3] at n64 hd
      rcases hc with ⟨hc, -⟩ | ⟨-, hc1, -⟩
      · exact absurd hc n3
      rw [tp_ne n64] at hc1 hd
      rw [hc1] at hX hd
      simp only [List.length_append, List.length_cons, List.length_nil] at hd
      exact hX.popE (.inr (by rw [h12, if_neg n3])) (by simp only [List.append_eq, List.nil_append, List.length_append]; omega) (fun v1 s1 w1 hX1 _ => L119 v1 v12 _ _ h12 s1 w1 hX1 ⟨ex, rfl⟩ (fun _ _ => by rw [hc1]; rfl))
    · refine L119 v v12 0 c h12 sF.rf (fun _ _ => rfl) hX ?_ (fun n3 n64 => absurd (by rw [if_neg n3, h64] at h12; exact h12.symm) n64)
      rcases hc with ⟨-, hc1, -⟩ | ⟨n3, hc1, -⟩
      · exact ⟨ex, hc1⟩
      · have e64 : (qc D (o1 + 1)).toInt = 64 := by
          rw [if_neg n3, h64] at h12
          exact h12.symm
        rw [e64] at hc1
        exact ⟨ex, hc1⟩
  have L74 : w_M_branch_L74 Q mm (v 68 - 1) ((v 81 - 1) - Int64.toInt32 x1) 0 mm (mH h F mm v) := by
    unfold w_M_branch_L74
    refine ⟨hB.2.1, .inl rfl, fun h3 e3 => ?_⟩
    rw [mH_I, vu_id z94] at e3
    subst e3
    refine ⟨hB.2.1, A 73, g73, k73, in73, fun hne => ?_, fun he => ?_⟩
    · rw [mH_o m73, cl] at hne
      have hil : i < gs.length := by
        rcases Nat.lt_or_ge i gs.length with h9 | h9
        · exact h9
        · exfalso
          apply hne
          rw [z_eq, ty, e73]
          congr 1
          omega
      rcases hb with ⟨h1, -⟩ | ⟨o1, bl, ex, h1, -, -, h4⟩
      · omega
      · exact inner _ o1 bl ex ty hil h1 h4
    · rw [mH_o m73, cl, z_eq, ty, e73] at he
      rcases hb with ⟨h1, -, c', h2⟩ | ⟨o1, bl, ex, h1, -, -, h4⟩
      · have el : labT (qc D) (tRt D t) gs i = tRt D t := by
          unfold labT
          rw [List.getElem?_eq_none (by omega)]
        rw [el] at hd
        subst h2
        simp only [List.length_append] at hd
        exact hX.leaveE (by omega) (fun h' F' v' s1 w1 w2 u1 u2 _ _ u3 u4 _ => hQ h' F' v' (.inr (.inl (leW D t b (xb_l h (A 74)) (b + nl + (tp (tRt D t) ++ c').length - 1)))) ⟨s1.P hB, s1.W hB, u1, by rw [w1, h82], w2, u3, u4, by rw [u2, leW_x]⟩ (.inl ⟨h1, rfl⟩))
      · have := (sp_at h1).2.2
        omega
  unfold w_M_branch
  rw [mH_i]
  refine ⟨hB.2.1, fun v2 e2 => ?_⟩
  subst e2
  refine ⟨A 73, g73, k73, in73, fun _ => ?_, fun h9 => ?_⟩
  · unfold w_M_branch_L42
    rw [mH_i]
    refine ⟨hB.2.1, fun h9 => absurd z94 h9, fun _ => ⟨A 73, g73, k73, in73, fun _ => L74, fun h9 => ?_⟩⟩
    rw [mH_o m73, cl] at h9
    exact absurd hlt h9
  · rw [mH_o m73, cl] at h9
    exact absurd hlt h9
end MRB
