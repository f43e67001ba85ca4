-- the reference: a run, flow
/-- an instruction of flow: the outcome -/
def flR (D : zM) (t b nl : Nat) (B : ctN) (ν0 : Nat → Int32) (op a : Nat) (c : List Int) (gs : List gF) (w : Nat → Int64) (z : uZ) : Prop :=
  (op = 0 → z = .inr (.inr 1)) ∧ (op = 1 → z = .inl (c, gs, a + 1, w)) ∧ (op = 2 ∨ op = 3 → z = .inl (c, (a, c) :: gs, a + 2, w)) ∧
  (op = 4 → ∃ c2, c = 127 :: c2 ∧ ((w (b + nl + c2.length) ≠ 0 ∧ z = .inl (c2, (a, c2) :: gs, a + 2, w)) ∨ (w (b + nl + c2.length) = 0 ∧ ∃ en : Nat, B (a + 1) en ∧ (((qc D en).toInt = 5 ∧ z = .inl (c2, (a, c2) :: gs, en + 1, w)) ∨ ((qc D en).toInt ≠ 5 ∧ z = .inl (c2, gs, en + 1, w)))))) ∧
  (op = 5 → ∃ y : Nat, B a y ∧ z = .inl (c, gs, y, w)) ∧
  (op = 11 → (∃ (e : gF) (gs' : List gF), gs = e :: gs' ∧ z = .inl (c, gs', a + 1, w)) ∨ (gs = [] ∧ z = .inr (.inl (leW D t b w (b + nl + c.length - 1))))) ∧
  (op = 12 → ∃ i : Nat, (ν0 (a + 1)).toInt = i ∧ brR D t b nl B c gs w i z) ∧
  (op = 13 → ∃ c2, c = 127 :: c2 ∧ ((w (b + nl + c2.length) ≠ 0 ∧ ∃ i : Nat, (ν0 (a + 1)).toInt = i ∧ brR D t b nl B c2 gs w i z) ∨ (w (b + nl + c2.length) = 0 ∧ ∃ x : Nat, B a x ∧ z = .inl (c2, gs, x, w)))) ∧
  (op = 14 → ∃ c2, c = 127 :: c2 ∧ ∃ L kk i : Nat, (ν0 (a + 1)).toInt = L ∧ (kk : Int) = min (w (b + nl + c2.length) &&& 4294967295).toInt L ∧ (ν0 (a + 2 + kk)).toInt = i ∧ brR D t b nl B c2 gs w i z) ∧
  (op = 15 → z = .inr (.inl (leW D t b w (b + nl + c.length - 1))))
section MRG
variable {own : Nat → Nat} {mm m i ip k f t b nl o top q a o1 : Nat} {A : Nat → Nat} {h h' h2 : xb_H} {F F' F2 : Nat → Nat → Int32} {v v' v2 : Nat → Int32} {D : zM} {DM : Nat → zM} {len rl K : Nat} {Q : xb_H → Prop} {Ql : Int64 → xb_H → Prop} {φ φ' : Nat → Nat → Int32} {ν ν' : Nat → Int32} {c c' ex pre : List Int} {gs g1 : List gF} {T p0 E : Nat} {lo ν0 ν1 cb : Nat → Int32} {G : ctG} {V : Nat → Prop} {rm y res : Int} {r : List cX} {x : Nat × Option Nat}
theorem n_flow {x1 x2 : Int32} {op : Nat} (hX : uX own mm A h F v DM len rl K D t f b nl k o c gs T p0 E lo ν0 ν1 G V rm r) (hG : G 0 a c gs) (hr : rdP v (qb D) (a + 1) (qe D)) (h82 : v 82 = 0) (hx1 : x1.toInt = k) (hx2 : x2.toInt = op) (hop : (qc D a).toInt % 256 = op) (ho : op < 16)
    (hQ : ∀ (h' : xb_H) (F' : Nat → Nat → Int32) (v' : Nat → Int32) (z : uZ), uP own mm A DM len rl K D t f b nl k o T p0 E lo ν0 ν1 G V rm r a (op = 1 ∨ op = 2 ∨ op = 3 ∨ op = 5 ∨ op = 11) h F v h' F' v' (rwd A h F v) z → flR D t b nl (ct_B ν1 p0 E) ν0 op a c gs (xb_l h (A 74)) z → Q (mH h' F' mm v')) : w_M_flow mm x1 x2 (mH h F mm v) Q := by
  obtain ⟨iz, mz, bz, y1, y2, y3, y4, y5, y6, y7, y8, y9, hM, hM2, hM3⟩ := hX.dX
  obtain ⟨C, dD, hVa, hwk, hE1, hE2, hE3, hvk, hcc⟩ := hX.ai hG hop
  obtain ⟨a1, ⟨l1, l2, l3, l4, l5, l6, l7, l8⟩, ⟨a3, a4, a5⟩, a6, a7, ⟨a8, a9, a10⟩, a11⟩ := id hX
  obtain ⟨B1, B2, B3, B4, B5, B6, B7, B8, B9⟩ := l3.1
  have hB := hX.1.B
  have hby := hM.2.2.1
  have ob := a6.ob
  have V4 := (gv_0 hM.2.2 hM2).2.2.2.2
  obtain ⟨C1, C2, C4, C5, C11, C12, C13, C14, C15, -⟩ := C
  obtain ⟨D1, -, -, D12, D13, D14, D15, -⟩ := dD
  have ex : ∀ j : Int32, x2 = j → (op : Int) = j.toInt := fun j e => by rw [← hx2, e]
  have hba := hby a
  have c3 : (qc D a).toInt = 3 ↔ op = 3 := by omega
  have gx : ∀ j : Nat, j < op → op < 16 → wk_sh (op : Int) < 13 := fun _ _ _ => hE3
  -- types at a + 1
  have ty1 : ((qc D (a + 1)).toInt = 64 ∨ 124 ≤ (qc D (a + 1)).toInt ∧ (qc D (a + 1)).toInt ≤ 127) → (ub (qc D) (a + 1)).toInt = (qc D (a + 1)).toInt := fun h9 => by
    unfold ub
    rw [z_255]
    omega
  -- an instruction that goes on
  have onw : ∀ {h' : xb_H} {F' : Nat → Nat → Int32} {v' : Nat → Int32} {c' : List Int} {gs' : List gF} {a' : Nat}, sF own A h F v h' F' v' → uX own mm A h' F' v' DM len rl K D t f b nl k o c' gs' T p0 E lo ν0 ν1 G V rm r → (v' 15).toInt = a' → G 0 a' c' gs' → v' 82 = 0 → ((op = 1 ∨ op = 2 ∨ op = 3 ∨ op = 5 ∨ op = 11) → a < a') → flR D t b nl (ct_B ν1 p0 E) ν0 op a c gs (xb_l h (A 74)) (.inl (c', gs', a', xb_l h' (A 74))) → Q (mH h' F' mm v') := fun g1 g2 g3 g4 g5 g6 g7 => hQ _ _ _ (.inl (_, _, _, _)) ⟨g1.P hB, g1.W hB, g2, g3, g4, g5, g6, rfl⟩ g7
  -- an opening
  have L88 : op = 2 ∨ op = 3 → w_M_flow_L88 Q mm x2 (mH h F mm v) := by
    intro h9
    obtain ⟨t1, t2, t3⟩ := C2 (by omega)
    have lt2 := (B7.2.1 _ _ _ t3).1.2.1
    have sh : wk_sh ((qc D a).toInt % 256) = 1 := by
      rw [hop]
      exact wk_sh_o (by omega) (by omega)
    unfold w_M_flow_L88
    refine ⟨hB.2.1, m_next_k hM.rd hr a1.z (by omega) (fun v1 r1 w1 _ => ?_)⟩
    have hX1 := hX.vg r1.vg w1
    have L106 : ∀ y0 : Int32, y0.toInt = (if (qc D a).toInt = 3 then 64 else (qc D (a + 1)).toInt) → w_M_flow_L106 Q y0 x2 mm (mH h F mm v1) := by
      intro y0 hy0
      unfold w_M_flow_L106 w_M_flow_L276
      refine ⟨hB.2.1, hX1.opn t2 hVa sh (by rw [hx2]; omega) (fun _ => r1.2.1) hy0 (fun F' v' s1 w2 hX2 _ => ?_)⟩
      exact onw (r1.sF.tr s1) hX2 (by rw [w2 15 (by decide)]; exact r1.2.1) t3 (by rw [w2 82 (by decide), r1.vg 82 (by decide) (by decide) (by decide) (by decide) (by decide)]; exact h82) (fun _ => by omega) ⟨fun e => by omega, fun e => by omega, fun _ => rfl, fun e => by omega, fun e => by omega, fun e => by omega, fun e => by omega, fun e => by omega, fun e => by omega, fun e => by omega⟩
    refine ⟨fun h3 => L106 _ ?_, fun h3 => L106 _ ?_⟩
    · rw [if_neg (fun e => h3 (by rw [z_eq, hx2, c3.mp e]; rfl))]
      exact ty1 t1
    · rw [if_pos (c3.mpr (by have := ex 3 h3; simp only [Int32.reduceToInt] at this; omega))]
      rfl
  -- a condition
  have F4 : op = 4 → xb_k (mH h F mm v) mm = 9 ∧ w_M_next mm (mH h F mm v) (fun (r10 : Int32) (h9 : xb_H) => xb_ext (mH h F mm v) h9 → w_M_pop mm 127 h9 (fun (r12 : Int64) (h11 : xb_H) => xb_ext h9 h11 → ((r12 = (0 : Int64) → w_M_readOn mm 1 1 h11 (fun (r15 : Int32) (h14 : xb_H) => xb_ext h11 h14 → ((r15 = (0 : Int32) → w_M_flow_L276 Q h14) ∧ (¬ r15 = (0 : Int32) → w_M_open mm 5 r10 h14 (fun (h17 : xb_H) => xb_ext h14 h17 → w_M_flow_L276 Q h17))))) ∧ (¬ r12 = (0 : Int64) → w_M_open mm 4 r10 h11 (fun (h19 : xb_H) => xb_ext h11 h19 → w_M_flow_L276 Q h19))))) := by
    intro h9
    obtain ⟨t1, t2, c2, t3, t4, t5⟩ := C4 (by omega)
    have lt2 := (B7.2.1 _ _ _ t4).1.2.1
    have d1 := D1 (.inl (by omega))
    subst t3
    simp only [List.length_cons] at d1
    have n3 : ¬ (qc D a).toInt = 3 := by omega
    have sh : wk_sh ((qc D a).toInt % 256) = 1 := by
      rw [hop]
      exact wk_sh_o (by omega) (by omega)
    refine ⟨hB.2.1, m_next_k hM.rd hr a1.z (by omega) (fun v1 r1 w1 _ => ?_)⟩
    have hX1 := hX.vg r1.vg w1
    refine hX1.popE (.inr rfl) (by omega) (fun v2 s2 w2 hX2 _ => ?_)
    have r2 : rdP v2 (qb D) (a + 2) (qe D) := by
      have := r1.P hr
      exact ⟨by rw [w2 15 (by decide)]; exact this.1, by rw [w2 16 (by decide)]; exact this.2.1, this.2.2⟩
    have v82 : v2 82 = 0 := by rw [w2 82 (by decide), r1.vg 82 (by decide) (by decide) (by decide) (by decide) (by decide)]; exact h82
    have lb : (ub (qc D) (a + 1)).toInt = (if (qc D a).toInt = 3 then 64 else (qc D (a + 1)).toInt) := by
      rw [if_neg n3]
      exact ty1 t1
    refine ⟨fun hz0 => ?_, fun hz0 => ?_⟩
    · obtain ⟨mw, st, wk1, wk2, wk3⟩ := hwk
      cases mw with
      | zero => exact wk1.elim
      | succ mw =>
        obtain ⟨q, st', u1, u2, u3, u4, u5, u6, -⟩ := hvk.nx hVa wk1 (fun e => by omega)
        obtain ⟨u6, -⟩ := u6 sh
        have e0 := u1.1
        rw [sh] at e0
        have eq2 : q = a + 2 := (e0.2.1 rfl).1
        subst eq2 u6
        have sl : st.length = gs.length := by
          have := congrArg List.length wk2
          simpa using this
        refine n_readOn (pre := []) (x := (a, none)) (rest := st) hM.rd hE2 hvk hby r2 hX2.1.z u4 u5 rfl (by simp only [List.nil_append, List.length_cons]; omega) (fun v3 r3 e1 q1 q2 q3 q4 q5 q6 q7 _ => ?_)
        have hX3 := hX2.vv (v' := v3) (fun j hj => q1 j (fun h8 => hj ((by decide : ∀ j, j ∈ [15, 17, 18, 96] → j ∈ [14, 15, 16, 17, 18, 20, 82, 96]) j h8))) q2
        have s3 : sF own A h F v2 h F v3 := ⟨⟨f0.rf, fun _ _ => rfl, id⟩, fun _ _ => rfl, fun j hj => q1 j (fun h8 => hj ((by decide : ∀ j, j ∈ [15, 17, 18, 96] → j ∈ rnV) j h8))⟩
        have v83 : v3 82 = 0 := by rw [q1 82 (by decide)]; exact v82
        obtain ⟨hb1, hb2⟩ := rb_x hvk hVa sh (by decide) q7 (B7.2.2.2.1 _ _ _ t5)
        refine ⟨fun e0 => ?_, fun e0 => ?_⟩
        · unfold w_M_flow_L276
          rcases hb2 with ⟨-, hb5, hb2⟩ | ⟨hb2, -⟩
          · exact onw ((r1.sF.tr s2).tr s3) hX3 q4.1 hb2 v83 (fun e => by omega) ⟨fun e => by omega, fun e => by omega, fun e => by omega, fun _ => ⟨c2, rfl, .inr ⟨hz0, e1, hb1, .inr ⟨hb5, rfl⟩⟩⟩, fun e => by omega, fun e => by omega, fun e => by omega, fun e => by omega, fun e => by omega, fun e => by omega⟩
          · rw [hb2] at e0
            exact absurd e0 (by decide)
        · rcases hb2 with ⟨hb2, -⟩ | ⟨-, hb5, hb2⟩
          · exact absurd hb2 e0
          · refine hX3.opn t2 hVa sh (by constructor <;> intro e9 <;> first | exact absurd e9 (by decide) | exact absurd e9 n3) (fun e9 => absurd e9 n3) lb (fun F' v' s4 w4 hX4 _ => ?_)
            unfold w_M_flow_L276
            exact onw (((r1.sF.tr s2).tr s3).tr s4) hX4 (by rw [w4 15 (by decide)]; exact q4.1) hb2 (by rw [w4 82 (by decide)]; exact v83) (fun e => by omega) ⟨fun e => by omega, fun e => by omega, fun e => by omega, fun _ => ⟨c2, rfl, .inr ⟨hz0, e1, hb1, .inl ⟨hb5, rfl⟩⟩⟩, fun e => by omega, fun e => by omega, fun e => by omega, fun e => by omega, fun e => by omega, fun e => by omega⟩
    · refine hX2.opn t2 hVa sh (by constructor <;> intro e9 <;> first | exact absurd e9 (by decide) | exact absurd e9 n3) (fun e9 => absurd e9 n3) lb (fun F' v' s4 w4 hX4 _ => ?_)
      unfold w_M_flow_L276
      exact onw ((r1.sF.tr s2).tr s4) hX4 (by rw [w4 15 (by decide)]; exact r2.1) t4 (by rw [w4 82 (by decide)]; exact v82) (fun e => by omega) ⟨fun e => by omega, fun e => by omega, fun e => by omega, fun _ => ⟨c2, rfl, .inl ⟨hz0, rfl⟩⟩, fun e => by omega, fun e => by omega, fun e => by omega, fun e => by omega, fun e => by omega, fun e => by omega⟩
  -- the end of a first part
  have F5 : op = 5 → xb_k (mH h F mm v) mm = 9 ∧ w_M_readOn mm 1 0 (mH h F mm v) (fun (r24 : Int32) (h23 : xb_H) => xb_ext (mH h F mm v) h23 → ∀ h25 : xb_H, h25 = xb_I h23 mm 15 (xb_i h23 mm 96) → w_M_flow_L276 Q h25) := by
    intro h9
    obtain ⟨o1, bl, gs', t1, t2, t3, t4⟩ := C5 (by omega)
    have c5 : (qc D a).toInt = 5 := by omega
    obtain ⟨mw, st, wk1, wk2, wk3⟩ := hwk
    cases mw with
    | zero => exact wk1.elim
    | succ mw =>
      have sh : wk_sh ((qc D a).toInt % 256) = 2 := by
        rw [hop, h9]
        decide
      obtain ⟨q, st', u1, u2, u3, u4, u5, -, u6, -⟩ := hvk.nx hVa wk1 (fun e => by omega)
      obtain ⟨o2, tl, u7, u8, u9⟩ := u6 sh
      have e0 := u1.1
      rw [sh] at e0
      have eq2 : q = a + 1 := e0.1 (.inr (.inl rfl))
      subst eq2 u9 u7 t1
      simp only [List.map_cons, List.cons.injEq] at wk2
      obtain ⟨eo, wk2⟩ := wk2
      subst eo
      have sl : tl.length = gs'.length := by
        have := congrArg List.length wk2
        simpa using this
      simp only [List.length_cons] at l8
      refine ⟨hB.2.1, n_readOn (pre := []) (x := (o2, some a)) (rest := tl) hM.rd hE2 hvk hby hr a1.z u4 u5 rfl (by simp only [List.nil_append, List.length_cons]; omega) (fun v3 r3 e1 q1 q2 q3 q4 q5 q6 q7 _ h25 e25 => ?_)⟩
      rw [mH_i, mH_I] at e25
      subst e25
      unfold w_M_flow_L276
      have er := q7.r0 rfl
      subst er
      obtain ⟨hc, hc5⟩ := rc_x hvk hVa c5 q7 t2 (B7.2.2.2.2 _ _ _ t4)
      have vo : ∀ j, j ∉ [15, 17, 18, 96] → va_up v3 15 (v3 96) j = v j := fun j hj => by rw [xh_up, if_neg (fun (e : j = 15) => hj (by rw [e]; decide)), q1 j hj]
      have hX3 := hX.vv (v' := va_up v3 15 (v3 96)) (fun j hj => vo j (fun h8 => hj ((by decide : ∀ j, j ∈ [15, 17, 18, 96] → j ∈ [14, 15, 16, 17, 18, 20, 82, 96]) j h8))) (by rw [xh_up, if_neg (by decide)]; exact q2)
      exact onw ⟨⟨f0.rf, fun _ _ => rfl, id⟩, fun _ _ => rfl, fun j hj => vo j (fun h8 => hj ((by decide : ∀ j, j ∈ [15, 17, 18, 96] → j ∈ rnV) j h8))⟩ hX3 (by rw [xh_up, if_pos rfl]; exact q3) hc (by rw [vo 82 (by decide)]; exact h82) (fun _ => by omega) ⟨fun e => by omega, fun e => by omega, fun e => by omega, fun e => by omega, fun _ => ⟨e1, hc5, rfl⟩, fun e => by omega, fun e => by omega, fun e => by omega, fun e => by omega, fun e => by omega⟩
  -- an end
  obtain ⟨g73, k73, n73, m73⟩ := hB.kx (k := 73) (kd := 102) (n := 200) (by decide) (by decide)
  have e73 : (F (A 73) k).toInt = o := l2.2.2.2
  have cl : x1.toNatClampNeg = k := by rw [z_cl, hx1]; omega
  have in73 : vp_in x1 (xb_n h (A 73)) := by rw [z_in, hx1, n73]; omega
  have e81 : (v 81 - 1).toInt = (o + gs.length : Nat) := by
    rw [z_sub, a10]
    simp only [Int32.reduceToInt]
    omega
  have F11 : op = 11 → xb_k (mH h F mm v) mm = 9 ∧ ∃ b33 : Nat, (xb_r (mH h F mm v) mm 73) = some b33 ∧ xb_k (mH h F mm v) b33 = 102 ∧ vp_in x1 (xb_n (mH h F mm v) b33) ∧ ((¬ ((xb_i (mH h F mm v) mm 81) - 1) = (xb_i (mH h F mm v) b33 (Int32.toNatClampNeg x1)) → ∀ h37 : xb_H, h37 = xb_I (mH h F mm v) mm 81 ((xb_i (mH h F mm v) mm 81) - 1) → w_M_flow_L276 Q h37) ∧ (((xb_i (mH h F mm v) mm 81) - 1) = (xb_i (mH h F mm v) b33 (Int32.toNatClampNeg x1)) → w_M_leave mm (mH h F mm v) (fun (h38 : xb_H) => xb_ext (mH h F mm v) h38 → w_M_flow_L276 Q h38))) := by
    intro h9
    have C11' := C11 (by omega)
    refine ⟨hB.2.1, A 73, g73, k73, in73, ?_, ?_⟩
    · rw [mH_i, mH_o m73, cl, mH_I]
      intro hne h37 e37
      subst e37
      unfold w_M_flow_L276
      rcases C11' with ⟨-, e, -⟩ | ⟨o1, bl, gs', t1, -, t3, t4⟩
      · exfalso
        apply hne
        rw [z_eq, e81, e73, e]
        rfl
      · subst t1
        simp only [List.length_cons] at e81
        have vo : ∀ j, j ≠ 81 → va_up v 81 (v 81 - 1) j = v j := fun j hj => by rw [xh_up, if_neg hj]
        have hX2 : uX own mm A h F (va_up v 81 (v 81 - 1)) DM len rl K D t f b nl k o c gs' T p0 E lo ν0 ν1 G V rm r := uX.cut (ex := []) (g1 := [(o1, bl)]) hX (fun j hj => vo j (fun (e : j = 81) => hj (by rw [e]; decide))) (by rw [vo 17 (by decide)]; exact a1.z) (by rw [vo 76 (by decide)]; exact a9) (by rw [xh_up, if_pos rfl, e81]; congr 1; omega)
        exact onw (sF.v1 (A := A) (k := 81) (by decide)) hX2 (by rw [vo 15 (by decide)]; exact hr.1) t4 (by rw [vo 82 (by decide)]; exact h82) (fun _ => by omega) ⟨fun e => by omega, fun e => by omega, fun e => by omega, fun e => by omega, fun e => by omega, fun _ => .inl ⟨_, _, rfl, rfl⟩, fun e => by omega, fun e => by omega, fun e => by omega, fun e => by omega⟩
    · rw [mH_i, mH_o m73, cl]
      intro he
      unfold w_M_flow_L276
      rw [z_eq, e81, e73] at he
      rcases C11' with ⟨-, e, t3⟩ | ⟨o1, bl, gs', t1, -, t3, t4⟩
      · subst e
        rw [V4] at t3
        have hX2 : uX own mm A h F v DM len rl K D t f b nl k o (tp (tRt D t) ++ []) [] T p0 E lo ν0 ν1 G V rm r := by
          rw [List.append_nil, ← t3]
          exact hX
        exact hX2.leaveE (Nat.zero_le _) (fun h' F' v' s1 w1 w2 u1 u2 _ _ u3 u4 _ => hQ h' F' v' (.inr (.inl (leW D t b (xb_l h (A 74)) (b + nl + (tp (tRt D t) ++ []).length - 1)))) ⟨s1.P hB, s1.W hB, u1, by rw [w1, h82], w2, u3, u4, by rw [u2, leW_x]⟩ ⟨fun e => by omega, fun e => by omega, fun e => by omega, fun e => by omega, fun e => by omega, fun _ => .inr ⟨rfl, by rw [t3, List.append_nil]⟩, fun e => by omega, fun e => by omega, fun e => by omega, fun e => by omega⟩)
      · subst t1
        simp only [List.length_cons] at he
        omega
  -- a branch
  have cnt : wk_sh ((qc D a).toInt % 256) = 4 → ∃ (q : Nat) (x : Int64), rC (qc D) (a + 1) = some (q, x) ∧ (ν0 (a + 1)).toBitVec.toNat = x.toBitVec.toNat ∧ (ν0 a).toInt = q ∧ V q ∧ wOK (qc D) ν0 E V q gs ∧ q < E := by
    intro s4
    obtain ⟨q, hnr, q1, q2, q3, q4⟩ := wOK.nx hvk hVa hwk (by omega)
    obtain ⟨n1, n2, n3⟩ := hnr
    rw [s4] at n1 n3
    obtain ⟨x, n1⟩ := n1.2.2.1 rfl
    obtain ⟨q', x', k1, k2, -⟩ := n3 (by omega)
    rw [n1] at k1
    simp only [Option.some.injEq, Prod.mk.injEq] at k1
    rw [← k1.2] at k2
    exact ⟨q, x, n1, k2, n2 (by omega), q3, q4, q2⟩
  have F12 : op = 12 → xb_k (mH h F mm v) mm = 9 ∧ w_M_count mm (mH h F mm v) (fun (r43 : Int64) (h42 : xb_H) => xb_ext (mH h F mm v) h42 → w_M_branch mm r43 h42 (fun (h44 : xb_H) => xb_ext h42 h44 → w_M_flow_L276 Q h44)) := by
    intro h9
    obtain ⟨q, x, k1, k2, k3, k4, k5, k6⟩ := cnt (by rw [hop, h9]; decide)
    obtain ⟨i, w, g1, -, g3⟩ := C12 (by omega)
    have hx : x.toInt = i := nt_x k2 g1
    have hd := D12 (by omega) i g1
    rw [V4] at g3 hd
    refine ⟨hB.2.1, m_count_k hM.rd hr a1.z k1 (by omega) (fun v1 r1 w1 _ => ?_)⟩
    have hX1 := hX.vg r1.vg w1
    refine hX1.branch (a := a) (nst := op = 1 ∨ op = 2 ∨ op = 3 ∨ op = 5 ∨ op = 11) (q := q) (by rw [r1.vg 82 (by decide) (by decide) (by decide) (by decide) (by decide)]; exact h82) hx g3 hd (fun _ => ⟨r1.P hr, k4, k5⟩) (by omega) (fun h' F' v' z hu hz _ => ?_)
    unfold w_M_flow_L276
    have sx : sF own A h F v h F v1 := r1.sF
    rw [sx.W hB] at hu
    exact hQ h' F' v' z (uP.tr hB sx hu) ⟨fun e => by omega, fun e => by omega, fun e => by omega, fun e => by omega, fun e => by omega, fun e => by omega, fun _ => ⟨i, g1, hz⟩, fun e => by omega, fun e => by omega, fun e => by omega⟩
  have F13 : op = 13 → xb_k (mH h F mm v) mm = 9 ∧ w_M_count mm (mH h F mm v) (fun (r49 : Int64) (h48 : xb_H) => xb_ext (mH h F mm v) h48 → w_M_pop mm 127 h48 (fun (r51 : Int64) (h50 : xb_H) => xb_ext h48 h50 → ((r51 = (0 : Int64) → w_M_flow_L276 Q h50) ∧ (¬ r51 = (0 : Int64) → w_M_branch mm r49 h50 (fun (h53 : xb_H) => xb_ext h50 h53 → w_M_flow_L276 Q h53))))) := by
    intro h9
    have s4 : wk_sh ((qc D a).toInt % 256) = 4 := by rw [hop, h9]; decide
    obtain ⟨q, x, k1, k2, k3, k4, k5, k6⟩ := cnt s4
    obtain ⟨i, w, c2, xx, g1, -, g2, g3, g4, g5⟩ := C13 (by omega)
    have hx : x.toInt = i := nt_x k2 g1
    have hd := D13 (by omega) i g1
    rw [V4] at g3 hd
    subst g2
    simp only [List.length_cons] at hd
    refine ⟨hB.2.1, m_count_k hM.rd hr a1.z k1 (by omega) (fun v1 r1 w1 _ => ?_)⟩
    have hX1 := hX.vg r1.vg w1
    refine hX1.popE (.inr rfl) (by omega) (fun v2 s2 w2 hX2 _ => ?_)
    have v82 : v2 82 = 0 := by rw [w2 82 (by decide), r1.vg 82 (by decide) (by decide) (by decide) (by decide) (by decide)]; exact h82
    have r2 : rdP v2 (qb D) q (qe D) := by
      have := r1.P hr
      exact ⟨by rw [w2 15 (by decide)]; exact this.1, by rw [w2 16 (by decide)]; exact this.2.1, this.2.2⟩
    refine ⟨fun hz0 => ?_, fun hz0 => ?_⟩
    · unfold w_M_flow_L276
      have exq : xx = q := by
        have h8 := g4.2.2
        rw [(hvk.2.1 a hVa).2.2.2 (by omega)] at h8
        omega
      subst exq
      exact onw (r1.sF.tr s2) hX2 r2.1 g5 v82 (fun e => by omega) ⟨fun e => by omega, fun e => by omega, fun e => by omega, fun e => by omega, fun e => by omega, fun e => by omega, fun e => by omega, fun _ => ⟨c2, rfl, .inr ⟨hz0, xx, g4, rfl⟩⟩, fun e => by omega, fun e => by omega⟩
    · refine hX2.branch (a := a) (nst := op = 1 ∨ op = 2 ∨ op = 3 ∨ op = 5 ∨ op = 11) (q := q) v82 hx g3 (by omega) (fun _ => ⟨r2, k4, k5⟩) (by omega) (fun h' F' v' z hu hz _ => ?_)
      unfold w_M_flow_L276
      have sx : sF own A h F v h F v2 := r1.sF.tr s2
      rw [sx.W hB] at hu
      exact hQ h' F' v' z (uP.tr hB sx hu) ⟨fun e => by omega, fun e => by omega, fun e => by omega, fun e => by omega, fun e => by omega, fun e => by omega, fun e => by omega, fun _ => ⟨c2, rfl, .inl ⟨hz0, i, g1, hz⟩⟩, fun e => by omega, fun e => by omega⟩
  have F15 : op = 15 → xb_k (mH h F mm v) mm = 9 ∧ ∃ b61 : Nat, (xb_r (mH h F mm v) mm 73) = some b61 ∧ xb_k (mH h F mm v) b61 = 102 ∧ vp_in x1 (xb_n (mH h F mm v) b61) ∧ w_M_branch mm (Int32.toInt64 (((xb_i (mH h F mm v) mm 81) - 1) - (xb_i (mH h F mm v) b61 (Int32.toNatClampNeg x1)))) (mH h F mm v) (fun (h64 : xb_H) => xb_ext (mH h F mm v) h64 → w_M_flow_L276 Q h64) := by
    intro h9
    obtain ⟨c2, g1⟩ := C15 (by omega)
    have hd := D15 (by omega)
    rw [V4] at g1 hd
    refine ⟨hB.2.1, A 73, g73, k73, in73, ?_⟩
    rw [mH_i, mH_o m73, cl]
    have hx : (Int32.toInt64 ((v 81 - 1) - F (A 73) k)).toInt = (gs.length : Nat) := by
      rw [Z_of32, z_sub, e81, e73]
      omega
    have el : labT (qc D) (tRt D t) gs gs.length = tRt D t := by
      unfold labT
      rw [List.getElem?_eq_none (Nat.le_refl _)]
    refine hX.branch (a := a) (nst := op = 1 ∨ op = 2 ∨ op = 3 ∨ op = 5 ∨ op = 11) (q := a) (w := -1) h82 hx (.inl ⟨rfl, rfl, c2, g1⟩) (by rw [el]; exact hd) (fun e => absurd e (Nat.lt_irrefl _)) (by omega) (fun h' F' v' z hu hz _ => ?_)
    unfold w_M_flow_L276
    refine hQ h' F' v' z hu ⟨fun e => by omega, fun e => by omega, fun e => by omega, fun e => by omega, fun e => by omega, fun e => by omega, fun e => by omega, fun e => by omega, fun e => by omega, fun _ => ?_⟩
    rcases hz with ⟨-, hz⟩ | ⟨o1, bl, hz, -⟩
    · exact hz
    · rw [List.getElem?_eq_none (Nat.le_refl _)] at hz
      exact absurd hz (by simp)
  have no : ∀ j : Int32, (wk_sh j.toInt = 13) → x2 = j → w_M_flow_L276 Q (mH h F mm v) := fun j hj e => by
    exfalso
    have := ex j e
    rw [← this] at hj
    omega
  have nx : ∀ (j : Int32) (n : Nat), j.toInt = n → x2 = j → op = n := fun j n hj e => by
    have := ex j e
    omega
  unfold w_M_flow
  refine ⟨fun e => ⟨hB.2.1, fun h3 e3 => ?_⟩, fun e => ?_, fun e => L88 (.inl (nx 2 2 rfl e)), fun e => L88 (.inr (nx 3 3 rfl e)), fun e => F4 (nx 4 4 rfl e), fun e => F5 (nx 5 5 rfl e), fun e => no 6 (by decide) e, fun e => no 7 (by decide) e, fun e => no 8 (by decide) e, fun e => no 9 (by decide) e, fun e => no 10 (by decide) e, fun e => F11 (nx 11 11 rfl e), fun e => F12 (nx 12 12 rfl e), fun e => F13 (nx 13 13 rfl e), fun e => ⟨hB.2.1, ?_⟩, fun e => F15 (nx 15 15 rfl e), fun n0 n1 n2 n3 n4 n5 n6 n7 n8 n9 n10 n11 n12 n13 n14 n15 => ?_⟩
  · rw [mH_I] at e3
    subst e3
    unfold w_M_flow_L276
    have e0 := nx 0 0 rfl e
    exact hQ _ _ _ _ (hX.trap (by decide)) ⟨fun _ => rfl, fun e => by omega, fun e => by omega, fun e => by omega, fun e => by omega, fun e => by omega, fun e => by omega, fun e => by omega, fun e => by omega, fun e => by omega⟩
  · unfold w_M_flow_L276
    have := nx 1 1 rfl e
    exact onw sF.rf hX hr.1 (C1 (by omega)) h82 (fun _ => by omega) ⟨fun e => by omega, fun _ => rfl, fun e => by omega, fun e => by omega, fun e => by omega, fun e => by omega, fun e => by omega, fun e => by omega, fun e => by omega, fun e => by omega⟩
  · have e14 := nx 14 14 rfl e
    refine n_byTable (nst := op = 1 ∨ op = 2 ∨ op = 3 ∨ op = 5 ∨ op = 11) hX hG hr h82 (by rw [hop, e14]; rfl) (by omega) (fun h' F' v' z hu hz _ => ?_)
    unfold w_M_flow_L276
    exact hQ h' F' v' z hu ⟨fun e => by omega, fun e => by omega, fun e => by omega, fun e => by omega, fun e => by omega, fun e => by omega, fun e => by omega, fun e => by omega, fun _ => hz, fun e => by omega⟩
  · exfalso
    have q : ∀ j : Nat, j < 16 → x2.toInt ≠ j := fun j hj e => by
      have h9 : j = 0 ∨ j = 1 ∨ j = 2 ∨ j = 3 ∨ j = 4 ∨ j = 5 ∨ j = 6 ∨ j = 7 ∨ j = 8 ∨ j = 9 ∨ j = 10 ∨ j = 11 ∨ j = 12 ∨ j = 13 ∨ j = 14 ∨ j = 15 := by omega
      rcases h9 with e9 | e9 | e9 | e9 | e9 | e9 | e9 | e9 | e9 | e9 | e9 | e9 | e9 | e9 | e9 | e9 <;> subst e9
      · exact n0 (z_eq.mpr e)
      · exact n1 (z_eq.mpr e)
      · exact n2 (z_eq.mpr e)
      · exact n3 (z_eq.mpr e)
      · exact n4 (z_eq.mpr e)
      · exact n5 (z_eq.mpr e)
      · exact n6 (z_eq.mpr e)
      · exact n7 (z_eq.mpr e)
      · exact n8 (z_eq.mpr e)
      · exact n9 (z_eq.mpr e)
      · exact n10 (z_eq.mpr e)
      · exact n11 (z_eq.mpr e)
      · exact n12 (z_eq.mpr e)
      · exact n13 (z_eq.mpr e)
      · exact n14 (z_eq.mpr e)
      · exact n15 (z_eq.mpr e)
    exact q op ho hx2
end MRG
