-- the reader: the loop over an instruction list
theorem wk_sh2 {b : Int} (h0 : 0 ≤ b) (h : wk_sh b = 2) : b = 5 := by
  unfold wk_sh at h
  repeat' split at h
  all_goals omega
theorem wk_sh1 {b : Int} (h0 : 0 ≤ b) (h : wk_sh b = 1) : b = 2 ∨ b = 3 ∨ b = 4 := by
  unfold wk_sh at h
  repeat' split at h
  all_goals omega
section RD5
variable {h0 h : xb_H} {rd op md cd nt N rc rs : Nat} {Qt : String → xb_H → Nat → Nat → Prop} {a l : Int} {bc bs : Nat}
theorem sp_Reader_noteEnd {p : Nat} {x1 x2 x3 v : Int32} {ν f : Nat → Int32} {Qr : xb_H → Prop} (hs : rd_s h rd md cd N a l) (hn : rd_n h0 h rd nt op N) (hcd : cd ≠ nt ∧ cd ≠ op ∧ cd ≠ rd) (h2 : x2.toInt = p) (hpN : p < N)
    (hQ1 : ¬ x1 = 0 → Qr (rd_E h rd nt op v (va_up ν p 1) f))
    (hQ0 : x1 = 0 → 0 ≤ x3.toInt ∧ x3.toInt + 1 < N ∧ (xb_i h cd x3.toInt.toNat = 5 → Qr (rd_E h rd nt op v (va_up ν x3.toInt.toNat x2) f)) ∧ (¬ xb_i h cd x3.toInt.toNat = 5 → Qr (rd_E h rd nt op v (va_up ν (x3.toInt.toNat + 1) x2) f))) : w_Reader_noteEnd rd x1 x2 x3 (rd_E h rd nt op v ν f) Qr := by
  obtain ⟨k1, k2, k3, k4, k5, k6, k7, k8, k9, k10, k11, k12⟩ := id hs
  obtain ⟨n1, n2, n3, n4, n5, n6, n7, n8, n9, n10⟩ := id hn
  unfold w_Reader_noteEnd w_Reader_noteEnd_L43
  refine ⟨fun e => ?_, fun e => ⟨k1, nt, n1, n2, by rw [z_in, h2, rdE_n, n3]; omega, fun h19 e19 => ?_⟩⟩
  · obtain ⟨g1, g2, g3, g4⟩ := hQ0 e
    have r3 := z_rg x3
    have e1 : (x3 + 1).toInt = x3.toInt + 1 := by rw [z_add]; simp only [Int32.reduceToInt]; omega
    refine ⟨k1, cd, k4, k5, by rw [z_in, rdE_n, k6]; omega, fun e5 => ⟨nt, n1, n2, by rw [z_in, e1, rdE_n, n3]; omega, fun h10 e10 => ?_⟩, fun e5 => ⟨nt, n1, n2, by rw [z_in, rdE_n, n3]; omega, fun h14 e14 => ?_⟩⟩
    · rw [z_cl, e1, rdE_nt n8 n10] at e10
      rw [rdE_io hcd.2.2 hcd.1 hcd.2.1, z_cl] at e5
      subst e10
      have := g4 e5
      rw [show x3.toInt.toNat + 1 = (x3.toInt + 1).toNat by omega] at this
      exact this
    · rw [z_cl, rdE_nt n8 n10] at e14
      rw [rdE_io hcd.2.2 hcd.1 hcd.2.1, z_cl] at e5
      subst e14
      exact g3 e5
  · rw [z_cl, h2, rdE_nt n8 n10] at e19
    subst e19
    exact hQ1 e
/-- where the loop stands: within the list, or behind its end -/
def rd_L (cb ν0 : Nat → Int32) (a0 p : Nat) (x1 x2 : Int32) (ν f : Nat → Int32) : Prop :=
  (∀ j, j < a0 → ν j = ν0 j) ∧ (∀ j, p ≤ j → ν j = 0) ∧
  ((x2 = 1 ∧ a0 < p ∧ ∃ m, wk cb ν p m a0 []) ∨ (x2 = 0 ∧ ∃ st : List (Nat × Option Nat), x1.toInt = st.length ∧ st.length ≤ 200 ∧ wk_st p st ∧ wk_o f st ∧ wk_c cb a0 st ∧ wk_cl cb ν a0 p st))
theorem sp_Reader_readExpression_L6 {a0 : Nat} {ν0 : Nat → Int32} {Qr : xb_H → Nat → Nat → Prop} (hT : rd_T h0 rd op md rc rs Qt) (hX : rd_X h0 h rd op md) (hs : rd_s h rd md cd N a l) (hn : rd_n h0 h rd nt op N) (hc : rc + 1 ≤ bc) (hb : rs + 6 ≤ bs) (ha0 : 0 < a0)
    (hby : ∀ j, -128 ≤ (xb_i h cd j).toInt ∧ (xb_i h cd j).toInt ≤ 127) (hcd : cd ≠ nt ∧ cd ≠ op ∧ cd ≠ rd)
    (hQ : ∀ (q : Nat) (v' : Int32) (ν' f' : Nat → Int32), v'.toInt = q → a0 < q → (q : Int) ≤ l → (∀ j, j < a0 → ν' j = ν0 j) → (∀ j, q ≤ j → ν' j = 0) → (∃ m, wk (xb_i h cd) ν' q m a0 []) → Qr (rd_E h rd nt op v' ν' f') bc bs) :
    ∀ (m : Nat) (x1 x2 x3 v : Int32) (ν f : Nat → Int32) (p : Nat), v.toInt = p → (p : Int) ≤ l → a0 ≤ p → 0 ≤ x3.toInt → x3.toInt ≤ p - a0 → N - x3.toInt ≤ m → rd_L (xb_i h cd) ν0 a0 p x1 x2 ν f → w_Reader_readExpression_L6 Qr Qt (m + 1) rd x1 x2 x3 (rd_E h rd nt op v ν f) bc bs
  | m, x1, x2, x3, v, ν, f, p, hv, hl, hap, h3, h3', hm, ⟨L1, L2, L3⟩ => by
    obtain ⟨k1, k2, k3, k4, k5, k6, k7, k8, k9, k10, k11, k12⟩ := id hs
    obtain ⟨n1, n2, n3, n4, n5, n6, n7, n8, n9, n10⟩ := id hn
    have r1 := z_rg x1
    have r3 := z_rg x3
    have hI := z_nI (n := N) (by omega)
    have e31 : (x3 + 1).toInt = x3.toInt + 1 := by rw [z_add]; simp only [Int32.reduceToInt]; omega
    unfold w_Reader_readExpression_L6 w_Reader_readExpression_L233
    refine ⟨k1, cd, k4, k5, fun g1 => ?_, fun g1 => ⟨fun g2 => ?_, fun g2 v6 e6 => ?_⟩⟩
    · rw [rdE_n, k6, z_le, hI] at g1
      rcases L3 with ⟨-, c2, c3⟩ | ⟨-, st, c⟩
      · exact hQ p v ν f hv c2 hl L1 L2 c3
      · omega
    · rcases L3 with ⟨-, c2, c3⟩ | ⟨c1, st, c⟩
      · exact hQ p v ν f hv c2 hl L1 L2 c3
      · exact absurd c1 g2
    · rcases L3 with ⟨c1, c2, c3⟩ | ⟨c1, st, d1, d2, d3, d4, d5, d6⟩
      · rw [g2] at c1
        exact absurd c1 (by decide)
      rw [rdE_n, k6, z_le, hI] at g1
      rw [rdE_iat n8 n9] at e6
      rw [e6]
      refine sp_Reader_nextByte hT (hX.E hn) (hs.E hn (by omega) (by omega)) hc hb (fun v1 q1 q2 _ => ?_)
      rw [rdE_at n8 n9, rdE_io hcd.2.2 hcd.1 hcd.2.1, hv, Int.toNat_natCast]
      have hb1 := z_255 (xb_i h cd p)
      have hy := hby p
      refine sp_Reader_shapeOf (by omega) (fun r hr _ => ?_)
      rw [hb1] at hr
      -- the next turn of the loop
      have nxt : ∀ (y1 y2 w : Int32) (ν1 f1 : Nat → Int32) (q : Nat), w.toInt = q → (q : Int) ≤ l → p < q → rd_L (xb_i h cd) ν0 a0 q y1 y2 ν1 f1 → w_Reader_readExpression_L227 (w_Reader_readExpression_L6 Qr Qt m) Qr Qt rd y1 y2 x3 (rd_E h rd nt op w ν1 f1) bc bs := by
        intro y1 y2 w ν1 f1 q j1 j2 j3 j4
        unfold w_Reader_readExpression_L227
        match m, hm with
        | 0, hm => omega
        | m + 1, hm => exact sp_Reader_readExpression_L6 hT hX hs hn hc hb ha0 hby hcd hQ m y1 y2 (x3 + 1) w ν1 f1 q j1 j2 (by omega) (by omega) (by omega) (by omega) j4
      have lit : ∀ k : Int32, r = k ↔ (wk_sh ((xb_i h cd p).toInt % 256) : Int) = k.toInt := fun k => by rw [z_eq, hr]
      have opr : ∀ s : Nat, wk_sh ((xb_i h cd p).toInt % 256) = s → 4 ≤ s → ∀ (q : Nat) (v' : Int32) (ν' : Nat → Int32), v'.toInt = q → (q : Int) ≤ l → rd_op s p q ν ν' → w_Reader_readExpression_L227 (w_Reader_readExpression_L6 Qr Qt m) Qr Qt rd x1 x2 x3 (rd_E h rd nt op v' ν' f) bc bs := by
        intro s hsh h4 q v' ν' j1 j2 j3
        have hpq := j3.2.2.2.1
        refine nxt _ _ _ _ _ q j1 j2 (by omega) ⟨fun j hj => ?_, fun j hj => ?_, .inr ⟨c1, st, d1, d2, d3.mono (by omega), d4, d5, d6.op d3 hsh h4 j3⟩⟩
        · rw [j3.1 j (by omega)]; exact L1 j hj
        · rw [j3.2.1 j hj]; exact L2 j (by omega)
      have fl : ∀ (c : Int32) (Qx : xb_H → Nat → Nat → Prop), ∃ b : Nat, xb_r (rd_E h rd nt op v1 ν f) rd 0 = some b ∧ xb_k (rd_E h rd nt op v1 ν f) b = 3 ∧ w_StackModule_fail b c v (rd_E h rd nt op v1 ν f) bc bs Qx Qt := fun c Qx => ⟨md, k2, k3, sp_fail hT (hX.E hn) hc hb⟩
      refine ⟨fun e => ?_, fun e => ?_, fun e => ?_, fun e => ?_, fun e => ?_, fun e => ?_, fun e0 e1 e2 e3 e4 e5 => ?_⟩
      · rw [lit] at e
        simp only [Int32.reduceToInt] at e
        exact nxt _ _ _ _ _ (p + 1) (by omega) (by omega) (by omega) ⟨L1, fun j hj => L2 j (by omega), .inr ⟨c1, st, d1, d2, d3.mono (by omega), d4, d5, d6.plain (by omega)⟩⟩
      · rw [lit] at e
        simp only [Int32.reduceToInt] at e
        refine ⟨fun e200 => ?_, fun _ => fl _ _⟩
        unfold w_Reader_readExpression_L94
        refine ⟨k1, sp_Reader_readBlockType hT hX hs hn hc hb (by omega) (by omega) hby hcd (fun v2 u1 u2 u3 _ => ⟨op, n4, n5, ?_, fun h8 e8 => ?_⟩)⟩
        · rw [z_eq, d1] at e200
          simp only [Int32.reduceToInt] at e200
          rw [z_in, rdE_n, n6]
          omega
        · rw [rdE_op] at e8
          subst e8
          rw [show v1.toInt.toNat = p + 1 by omega] at u3
          rw [z_eq, d1] at e200
          simp only [Int32.reduceToInt] at e200
          have e11 : (x1 + 1).toInt = x1.toInt + 1 := by rw [z_add]; simp only [Int32.reduceToInt]; omega
          have hop := wk_sh1 (by omega) (show wk_sh ((xb_i h cd p).toInt % 256) = 1 by omega)
          refine nxt _ _ _ _ _ (p + 2) (by omega) (by omega) (by omega) ⟨L1, fun j hj => L2 j (by omega), .inr ⟨c1, (p, none) :: st, by rw [e11, d1]; simp, by simp; omega, d3.op, ⟨?_, ?_⟩, ⟨⟨hap, fun _ => by dsimp only; omega, fun e9 h9 => (by cases h9)⟩, d5⟩, d6.opens (by omega) u3 (by omega)⟩⟩
          · rw [xh_up, if_pos (by rw [z_cl, d1]; rfl)]
            exact hv
          · exact d4.up (by rw [z_cl, d1]; simp)
      · rw [lit] at e
        simp only [Int32.reduceToInt] at e
        have h133 : w_Reader_readExpression_L133 (w_Reader_readExpression_L6 Qr Qt m) Qr Qt rd x1 x2 x3 v (rd_E h rd nt op v1 ν f) bc bs := by
          unfold w_Reader_readExpression_L133
          exact ⟨k1, fl _ _⟩
        refine ⟨fun _ => h133, fun e10 => ?_⟩
        rw [z_eq, d1] at e10
        simp only [Int32.reduceToInt] at e10
        match st, d1, d2, d3, d4, d5, d6 with
        | [], d1, _, _, _, _, _ => exact absurd (show ((([] : List (Nat × Option Nat)).length : Nat) : Int) = 0 from rfl) e10
        | x :: t, d1, d2, d3, d4, d5, d6 =>
          have e11 : (x1 - 1).toInt = t.length := by rw [z_sub, d1]; simp only [Int32.reduceToInt, List.length_cons]; simp only [List.length_cons] at d2; omega
          have c11 : (x1 - 1).toNatClampNeg = t.length := by rw [z_cl, e11]; omega
          have hpl : (f t.length).toInt = wk_pl x := d4.1
          have hplp : wk_pl x < p := by
            obtain ⟨o, e'⟩ := x
            cases e' with
            | none => have := d3.2.1; dsimp only at this; show o < p; omega
            | some e' => exact d3.1
          have hc0 : (f t.length).toNatClampNeg = wk_pl x := by rw [z_cl, hpl]; omega
          refine ⟨cd, k4, op, n4, n5, by rw [z_in, e11, rdE_n, n6]; simp only [List.length_cons] at d2; omega, k5, by rw [rdE_iop, c11, z_in, hpl, rdE_n, k6]; omega, fun e4 => ?_, fun _ => h133⟩
          rw [rdE_iop, c11, hc0, rdE_io hcd.2.2 hcd.1 hcd.2.1] at e4
          obtain ⟨o, e'⟩ := x
          cases e' with
          | some e' =>
            exfalso
            have h9 := (d5.1.2.2 e' rfl).2
            have h8 : xb_i h cd e' = 4 := e4
            rw [h8] at h9
            exact absurd h9 (by decide)
          | none =>
            have h8 : xb_i h cd o = 4 := e4
            have ho : (f t.length).toInt = o := hpl
            have hop : o + 1 < p := d3.2.1
            have eo1 : (f t.length + 1).toInt = o + 1 := by rw [z_add, ho]; simp only [Int32.reduceToInt]; omega
            unfold w_Reader_readExpression_L143
            refine ⟨k1, nt, n1, op, n4, n5, by rw [z_in, e11, rdE_n, n6]; simp only [List.length_cons] at d2; omega, n2, by rw [rdE_iop, c11, z_in, eo1, rdE_n, n3]; omega, fun h9 e9 => ?_⟩
            rw [rdE_iop, c11, z_cl, eo1, rdE_nt n8 n10] at e9
            subst e9
            refine ⟨op, n4, n5, by rw [z_in, e11, rdE_n, n6]; simp only [List.length_cons] at d2; omega, fun h12 e12 => ?_⟩
            rw [rdE_op, c11] at e12
            subst e12
            rw [show ((o : Int) + 1).toNat = o + 1 by omega]
            refine nxt _ _ _ _ _ (p + 1) (by omega) (by omega) (by omega) ⟨fun j hj => ?_, fun j hj => ?_, .inr ⟨c1, (o, some p) :: t, d1, d2, d3.el, ⟨?_, ?_⟩, ⟨⟨d5.1.1, fun e9 => (by cases e9), fun e9 h9 => ?_⟩, d5.2⟩, d6.els d3 (by omega) h8 hv⟩⟩
            · have hao : a0 ≤ o := d5.1.1
              rw [xh_up, if_neg (by omega)]; exact L1 j hj
            · rw [xh_up, if_neg (by omega)]; exact L2 j (by omega)
            · rw [xh_up, if_pos rfl]; exact hv
            · exact d4.2.up (by omega)
            · cases h9
              have h10 := wk_sh2 (by omega) (show wk_sh ((xb_i h cd p).toInt % 256) = 2 by omega)
              refine ⟨h8, ?_⟩
              rw [z_eq]
              simp only [Int32.reduceToInt]
              omega
      · rw [lit] at e
        simp only [Int32.reduceToInt] at e
        unfold w_Reader_readExpression_L182
        match st, d1, d2, d3, d4, d5, d6 with
        | [], d1, d2, d3, d4, d5, d6 =>
          have e0 : x1 = 0 := by rw [z_eq, d1]; rfl
          refine ⟨fun h9 => absurd e0 h9, fun _ y1 ey => ⟨k1, op, n4, n5, ?_, ?_⟩⟩
          · rw [e0] at ey
            rw [ey, rdE_n, n6, z_in]
            decide
          · refine sp_Reader_noteEnd (p := p) hs hn hcd hv (by omega) (fun _ _ => ?_) (fun h9 => absurd h9 (by decide))
            exact nxt _ _ _ _ _ (p + 1) (by omega) (by omega) (by omega) ⟨fun j hj => by rw [xh_up, if_neg (by omega)]; exact L1 j hj, fun j hj => by rw [xh_up, if_neg (by omega)]; exact L2 j (by omega), .inl ⟨rfl, by omega, d6.fin (by omega) (by decide)⟩⟩
        | x :: t, d1, d2, d3, d4, d5, d6 =>
          have hx1 : x1.toInt = t.length + 1 := by rw [d1]; simp
          have e11 : (x1 - 1).toInt = t.length := by rw [z_sub, hx1]; simp only [Int32.reduceToInt]; simp only [List.length_cons] at d2; omega
          refine ⟨fun _ y1 ey => ⟨k1, op, n4, n5, ?_, ?_⟩, fun h9 => ?_⟩
          · have ey1 : y1.toInt = t.length := by
              rw [ey]
              split
              · exact e11
              · rename_i h9
                rw [z_lt, e11] at h9
                simp only [Int32.reduceToInt] at h9 ⊢
                omega
            rw [z_in, ey1, rdE_n, n6]
            simp only [List.length_cons] at d2
            omega
          · have ey1 : y1.toInt = t.length := by
              rw [ey]
              split
              · exact e11
              · rename_i h9
                rw [z_lt, e11] at h9
                simp only [Int32.reduceToInt] at h9 ⊢
                omega
            have cy1 : y1.toNatClampNeg = t.length := by rw [z_cl, ey1]; omega
            have hpl : (f t.length).toInt = wk_pl x := d4.1
            rw [rdE_iop, cy1]
            have fin : ∀ k : Nat, k = wk_key x → w_Reader_readExpression_L227 (w_Reader_readExpression_L6 Qr Qt m) Qr Qt rd y1 0 x3 (rd_E h rd nt op v1 (va_up ν k v) f) bc bs := by
              intro k hk
              subst hk
              have hkp := d3.1
              have hka := wk_c.key d5 d3 (List.mem_cons_self)
              refine nxt _ _ _ _ _ (p + 1) (by omega) (by omega) (by omega) ⟨fun j hj => ?_, fun j hj => ?_, .inr ⟨rfl, t, ey1, by simp only [List.length_cons] at d2; omega, d3.tl, d4.2, d5.2, d6.ends d3 (by omega) (L2 p (by omega)) hv⟩⟩
              · rw [xh_up, if_neg (by omega)]; exact L1 j hj
              · rw [xh_up, if_neg (by omega)]; exact L2 j (by omega)
            refine sp_Reader_noteEnd (p := p) hs hn hcd hv (by omega) (fun h9 => absurd rfl h9) (fun _ => ?_)
            obtain ⟨o, e'⟩ := x
            cases e' with
            | none =>
              have ho : (f t.length).toInt = o := hpl
              have hop : o + 1 < p := d3.2.1
              rw [ho]
              refine ⟨by omega, by omega, fun e5 => ?_, fun _ _ => fin _ (by show (o : Int).toNat + 1 = o + 1; omega)⟩
              exfalso
              have h10 := d5.1.2.1 rfl
              dsimp only at h10
              rw [Int.toNat_natCast] at e5
              rw [e5] at h10
              simp only [Int32.reduceToInt] at h10
              omega
            | some e' =>
              have ho : (f t.length).toInt = e' := hpl
              have hop : e' < p := d3.1
              rw [ho]
              refine ⟨by omega, by omega, fun _ _ => fin _ (by show (e' : Int).toNat = e'; omega), fun e5 => ?_⟩
              exfalso
              rw [Int.toNat_natCast] at e5
              exact e5 (d5.1.2.2 e' rfl).2
          · rw [z_eq, hx1] at h9
            simp only [Int32.reduceToInt] at h9
            omega
      · rw [lit] at e
        simp only [Int32.reduceToInt] at e
        unfold w_Reader_readExpression_L219
        refine ⟨k1, sp_Reader_readOperands hT hX hs hn hc hb hr hv (by omega) (by omega) (by omega) (fun q v' ν' j1 j2 j3 _ => opr _ rfl (by omega) q v' ν' j1 j2 j3)⟩
      · rw [lit] at e
        simp only [Int32.reduceToInt] at e
        exact sp_Reader_readLabels hT hX hs hn hc hb hv (by omega) (by omega) (fun q v' ν' j1 j2 j3 _ => opr 5 (by omega) (by omega) q v' ν' j1 j2 j3)
      · rw [lit] at e0 e1 e2 e3 e4 e5
        simp only [Int32.reduceToInt] at e0 e1 e2 e3 e4 e5
        unfold w_Reader_readExpression_L219
        refine ⟨k1, sp_Reader_readOperands hT hX hs hn hc hb hr hv (by omega) (by omega) (by omega) (fun q v' ν' j1 j2 j3 _ => opr _ rfl (by omega) q v' ν' j1 j2 j3)⟩
theorem sp_Reader_readExpression {a0 : Nat} {ν0 : Nat → Int32} {Qr : xb_H → Nat → Nat → Prop} (hT : rd_T h0 rd op md rc rs Qt) (hX : rd_X h0 h rd op md) (hs : rd_s h rd md cd N a0 l) (hn : rd_n h0 h rd nt op N) (hc : rc + 1 ≤ bc) (hb : rs + 6 ≤ bs) (ha0 : 0 < a0)
    (hby : ∀ j, -128 ≤ (xb_i h cd j).toInt ∧ (xb_i h cd j).toInt ≤ 127) (hcd : cd ≠ nt ∧ cd ≠ op ∧ cd ≠ rd) (hν : xb_i h nt = ν0) (hz : ∀ j, a0 ≤ j → ν0 j = 0)
    (hQ : ∀ (q : Nat) (v' : Int32) (ν' f' : Nat → Int32), v'.toInt = q → a0 < q → (q : Int) ≤ l → (∀ j, j < a0 → ν' j = ν0 j) → (∀ j, q ≤ j → ν' j = 0) → (∃ m, wk (xb_i h cd) ν' q m a0 []) → Qr (rd_E h rd nt op v' ν' f') bc bs) : w_Reader_readExpression rd h bc bs Qr Qt := by
  obtain ⟨n1, n2, n3, n4, n5, n6, n7, n8, n9, n10⟩ := id hn
  have k7 := hs.2.2.2.2.2.2.1
  have k10 := hs.2.2.2.2.2.2.2.2.2.1
  unfold w_Reader_readExpression
  refine ⟨N + 1, ?_⟩
  have h1 := sp_Reader_readExpression_L6 (Qr := Qr) hT hX hs hn hc hb ha0 hby hcd hQ N 0 0 0 (xb_i h rd 3) (xb_i h nt) (xb_i h op) a0 k7 k10 (by omega) (by simp) (by simp) (by simp) ⟨fun j _ => by rw [hν], fun j hj => by rw [hν]; exact hz j hj, .inr ⟨rfl, [], rfl, by simp, trivial, trivial, trivial, fun E nu _ hw => hw⟩⟩
  rw [rdE_self n8 n9 n10] at h1
  exact h1
end RD5
