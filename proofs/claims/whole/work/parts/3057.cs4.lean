-- the checker in a body: what an instruction takes and puts
/-- a type is put -/
def ck_pt (cur : List Int) (g x : Int) (cur' : List Int) (g' : Int) : Prop := (x = 64 ∧ cur' = cur ∧ g' = g) ∨ (x ≠ 64 ∧ cur' = x :: cur ∧ g' = max g (cur.length + 1))
def ck_tkl (f : ckF) : List Int → List Int → List Int → Prop
  | cur, [], cur' => cur' = cur
  | cur, x :: xs, cur' => ∃ (r : Int) (c : List Int), ck_tk f cur x r c ∧ ck_tkl f c xs cur'
/-- parameters, the last first -/
def ptl (cb : Nat → Int32) (pa : Nat) : Nat → List Int
  | 0 => []
  | k + 1 => (cb (pa + k)).toInt :: ptl cb pa k
def ck_t (t : Int) : Prop := t = 0 ∨ 124 ≤ t ∧ t ≤ 127
theorem ck_tk.len {f : ckF} {cur cur' : List Int} {x r : Int} (h : ck_tk f cur x r cur') : cur'.length ≤ cur.length := by
  rcases h with ⟨-, -, e⟩ | ⟨-, e, -⟩ | ⟨-, -, -, -, e⟩
  · rw [e]; omega
  · rw [e]; simp
  · rw [e]; omega
theorem ck_tk.ty {f : ckF} {cur cur' : List Int} {x r : Int} (h : ck_tk f cur x r cur') (hx : x ≠ 64) (ht : ∀ t ∈ cur, ck_t t) : ck_t r ∧ ∀ t ∈ cur', ck_t t := by
  rcases h with ⟨e, -⟩ | ⟨-, e, -⟩ | ⟨-, -, -, e1, e⟩
  · exact absurd e hx
  · subst e
    exact ⟨ht r (List.mem_cons_self), fun t h => ht t (List.mem_cons_of_mem _ h)⟩
  · subst e
    exact ⟨.inl e1, ht⟩
theorem ck_tk.ty2 {f : ckF} {cur cur' : List Int} {x r : Int} (h : ck_tk f cur x r cur') (ht : ∀ t ∈ cur, ck_t t) : ∀ t ∈ cur', ck_t t := by
  rcases h with ⟨-, -, e⟩ | ⟨-, e, -⟩ | ⟨-, -, -, -, e⟩
  · subst e; exact ht
  · subst e; exact fun t h => ht t (List.mem_cons_of_mem _ h)
  · subst e; exact ht
section CS4
variable {S : Nat → Prop} {h0 h : xb_H} {md rd op ck cd nt im N oa rc rs : Nat} {ca : Nat → Nat} {rw it n : Nat → Nat} {vs : Nat → Nat → Int64} {cb ν iv lo : Nat → Int32} {R0 F : Nat → Nat → Int32} {bc bs : Nat} {Qt : String → xb_H → Nat → Nat → Prop} {cur : List Int} {fs r : List ckF} {f : ckF} {g p lc ty : Int}
theorem cs_checkSelect {Qr : xb_H → Nat → Nat → Prop} (hT : ck_T S h0 md rd op ck ca rc rs Qt) (hH : ck_H S h0 h md rd op ck cd nt im N oa ca rw it n vs cb iv R0) (hF : ck_Fr S h0 h F) (hc : rc + 1 ≤ bc) (hb : rs + 6 ≤ bs) (hS : ck_S ck oa nt cd im ca rw R0 cb iv F cur (f :: r) ν lo g p lc ty) (hcl : (cur.length : Int) ≤ N) (hg : g ≤ 100000) (hfl : (f :: r).length ≤ 201) (hty : ∀ t ∈ cur, ck_t t)
    (hQ : ∀ (F' : Nat → Nat → Int32) (c1 c2 c3 cur' : List Int) (r3 r5 r7 g' : Int), ck_tk f cur 127 r3 c1 → ck_tk f c1 0 r5 c2 → ck_tk f c2 r5 r7 c3 → ck_pt c3 g (if r5 = 0 then r7 else r5) cur' g' → ck_Fr S h0 h F' → ck_S ck oa nt cd im ca rw R0 cb iv F' cur' (f :: r) ν lo g' p lc ty → Qr (xb_W h F') bc bs) : w_Checker_checkSelect ck (xb_W h F) bc bs Qr Qt := by
  have kck : xb_k h ck = 5 := hH.2.2.2.2.2.1
  unfold w_Checker_checkSelect
  refine ⟨kck, cs_take hT hH hF hc hb hS hcl hfl (fun u1 F1 c1 t1 hF1 hS1 _ => cs_take hT hH hF1 hc hb hS1 (by have := t1.len; omega) hfl (fun u2 F2 c2 t2 hF2 hS2 _ => cs_take hT hH hF2 hc hb hS2 (by have := t1.len; have := t2.len; omega) hfl (fun u3 F3 c3 t3 hF3 hS3 _ => ?_)))⟩
  have l1 := t1.len
  have l2 := t2.len
  have l3 := t3.len
  have y1 := t1.ty2 hty
  obtain ⟨y2, y2'⟩ := t2.ty (by decide) y1
  have y5 : u2.toInt ≠ 64 := by unfold ck_t at y2; omega
  obtain ⟨y3, -⟩ := t3.ty y5 y2'
  have z2 : (0 : Int32).toInt = 0 := rfl
  have z1 : (127 : Int32).toInt = 127 := rfl
  rw [z1] at t1
  rw [z2] at t2
  unfold w_Checker_checkSelect_L29
  unfold ck_t at y2 y3
  refine ⟨fun e => ⟨kck, cs_put hH hF3 hS3 (by omega) (by omega) (by omega) (fun F4 cur' g' q hF4 hS4 _ => hQ F4 c1 c2 c3 cur' _ _ _ g' t1 t2 t3 ?_ hF4 hS4)⟩, fun e => ⟨kck, cs_put hH hF3 hS3 (by omega) (by omega) (by omega) (fun F4 cur' g' q hF4 hS4 _ => hQ F4 c1 c2 c3 cur' _ _ _ g' t1 t2 t3 ?_ hF4 hS4)⟩⟩
  · rw [z_eq, z2] at e
    rw [if_neg e]
    exact q
  · rw [z_eq, z2] at e
    rw [if_pos e]
    exact q
theorem cs_checkOpening {x : Int32} {q : Nat} {Qr : xb_H → Nat → Nat → Prop} (lv : Bool) (hT : ck_T S h0 md rd op ck ca rc rs Qt) (hH : ck_H S h0 h md rd op ck cd nt im N oa ca rw it n vs cb iv R0) (hF : ck_Fr S h0 h F) (hc : rc + 1 ≤ bc) (hb : rs + 6 ≤ bs) (hS : ck_S ck oa nt cd im ca rw R0 cb iv F cur (f :: r) ν lo g q lc ty) (hcl : (cur.length : Int) ≤ N) (hg : g ≤ 100000) (hfl : (f :: r).length ≤ 201) (hfl2 : (f :: r).length ≤ 200) (hq : q + 1 < N) (hx : x.toInt = 2 ∨ x.toInt = 3 ∨ x.toInt = 4)
    (hQ : ∀ (F' : Nat → Nat → Int32) (c1 : List Int) (w : Int32), (x.toInt ≠ 4 → c1 = cur) → (x.toInt = 4 → ∃ r3, ck_tk f cur 127 r3 c1) → w.toInt = c1.length → ck_Fr S h0 h F' → ck_S ck oa nt cd im ca rw R0 cb iv F' c1 ((x.toInt, q, (if x.toInt = 3 then 64 else (cb (q + 1)).toInt), (cb (q + 1)).toInt, c1, 0, lv) :: f :: r) (va_up ν q w) lo g q lc ty → Qr (xb_W h F') bc bs) : w_Checker_checkOpening ck x (xb_W h F) bc bs Qr Qt := by
  have kck : xb_k h ck = 5 := hH.2.2.2.2.2.1
  obtain ⟨-, -, ⟨r0, r1, r2, r3, ko, lo1, lo2⟩, hD, ⟨S1, S2, S3⟩, -, kmd, ha, hN, ⟨knt, nnt, kcd, ncd⟩⟩ := id hH
  have L12 : ∀ (F1 : Nat → Nat → Int32) (c1 : List Int), ck_Fr S h0 h F1 → ck_S ck oa nt cd im ca rw R0 cb iv F1 c1 (f :: r) ν lo g q lc ty → (x.toInt ≠ 4 → c1 = cur) → (x.toInt = 4 → ∃ r3, ck_tk f cur 127 r3 c1) → w_Checker_checkOpening_L12 Qr Qt ck x (xb_W h F1) bc bs := by
    intro F1 c1 hF1 hS1 g1 g2
    obtain ⟨⟨s1, s2, s3, s4, s5, s6⟩, so, sf, s7, s8, s9, s10, s11, s12⟩ := id hS1
    have e9 : (F1 ck 9 + 1).toInt = q + 1 := by rw [z_add, s5]; simp only [Int32.reduceToInt]; omega
    have c9 : (F1 ck 9).toNatClampNeg = q := by rw [z_cl, s5]; omega
    have c91 : (F1 ck 9 + 1).toNatClampNeg = q + 1 := by rw [z_cl, e9]; omega
    unfold w_Checker_checkOpening_L12
    refine ⟨kck, cd, r1, kcd, by rw [z_in, xW_i, e9, xW_n, ncd]; omega, fun v5 e5 => ⟨nt, r2, knt, by rw [z_in, xW_i, s5, xW_n, nnt]; omega, fun h9 e9' => ?_⟩⟩
    rw [xW_i, s9, c91] at e5
    rw [xW_i, xW_I, c9] at e9'
    subst e9'
    have hS2 := hS1.nt_ (k := q) (w := F1 ck 4) hD
    have hF2 : ck_Fr S h0 h (va_up F1 nt (va_up (F1 nt) q (F1 ck 4))) := hF1.up (.inr S3)
    have e29 : va_up F1 nt (va_up (F1 nt) q (F1 ck 4)) ck 9 = F1 ck 9 := by rw [xh_up, if_neg hD.2.1.1]
    unfold w_Checker_checkOpening_L54
    rw [xW_i, e29]
    refine ⟨fun e => ⟨kck, cs_openThing lv hH hF2 hS2 hfl2 (fun F3 hF3 hS3 _ => hQ F3 c1 (F1 ck 4) g1 g2 s1 hF3 ?_)⟩, fun e => ⟨kck, cs_openThing lv hH hF2 hS2 hfl2 (fun F3 hF3 hS3 _ => hQ F3 c1 (F1 ck 4) g1 g2 s1 hF3 ?_)⟩⟩
    · rw [z_eq] at e
      simp only [Int32.reduceToInt] at e
      rw [if_neg e, ← e5, ← s5]
      rw [← s5] at hS3
      exact hS3
    · have e' := e
      rw [z_eq] at e
      simp only [Int32.reduceToInt] at e
      rw [if_pos e, ← e5, ← s5]
      rw [← s5] at hS3
      exact hS3
  unfold w_Checker_checkOpening
  refine ⟨fun e => ?_, fun e => ⟨kck, cs_take hT hH hF hc hb hS hcl hfl (fun u F1 c1 t1 hF1 hS1 _ => ?_)⟩⟩
  · rw [z_eq] at e
    simp only [Int32.reduceToInt] at e
    exact L12 F cur hF hS (fun _ => rfl) (fun e9 => absurd e9 e)
  · rw [z_eq] at e
    simp only [Int32.reduceToInt] at e
    exact L12 F1 c1 hF1 hS1 (fun e9 => absurd e e9) (fun _ => ⟨_, t1⟩)
end CS4
