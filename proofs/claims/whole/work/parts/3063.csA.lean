-- the checker in a body: an instruction
def fdie (f : ckF) : ckF := (fk f, fa f, fl_ f, fe f, fb f, 1, fv f)
/-- what an instruction does to the types, the open things and the notes -/
def ck_st (n : Nat → Nat) (vs : Nat → Nat → Int64) (cb lo : Nat → Int32) (t lcn : Nat) (lv : Bool) (q : Nat) (op : Int) (cur : List Int) (f : ckF) (r : List ckF) (ν : Nat → Int32) (g : Int) (cur' : List Int) (fs' : List ckF) (ν' : Nat → Int32) (g' : Int) : Prop :=
  (op = 0 → cur' = fb f ∧ fs' = fdie f :: r ∧ ν' = ν ∧ g' = g) ∧
  (op = 1 → cur' = cur ∧ fs' = f :: r ∧ ν' = ν ∧ g' = g) ∧
  (2 ≤ op → op ≤ 4 → ∃ w : Int32, (op ≠ 4 → cur' = cur) ∧ (op = 4 → ∃ r3, ck_tk f cur 127 r3 cur') ∧ w.toInt = cur'.length ∧ fs' = (op, (q : Int), (if op = 3 then 64 else (cb (q + 1)).toInt), (cb (q + 1)).toInt, cur', 0, lv) :: f :: r ∧ ν' = va_up ν q w ∧ g' = g) ∧
  (op = 5 → (∃ r3, ck_tk f cur (fe f) r3 (fb f)) ∧ cur' = fb f ∧ fs' = (5, fa f, fe f, fe f, fb f, 0, lv) :: r ∧ ν' = ν ∧ g' = g) ∧
  (op = 11 → (∃ r3, ck_tk f cur (fe f) r3 (fb f)) ∧ (fk f = 4 → fe f = 64) ∧ ck_pt (fb f) g (fe f) cur' g' ∧ fs' = r ∧ ν' = ν) ∧
  (op = 12 → ∃ (i : Nat) (f' : ckF) (w : Int32) (r2 : Int) (c2 : List Int), (ν (q + 1)).toInt = i ∧ (f :: r)[i]? = some f' ∧ w.toInt = fa f' ∧ ck_tk f cur (fl_ f') r2 c2 ∧ cur' = fb f ∧ fs' = fdie f :: r ∧ ν' = va_up ν (q + 1) w ∧ g' = g) ∧
  (op = 13 → ∃ (i : Nat) (f' : ckF) (w : Int32) (c1 c2 : List Int) (r1 r2 : Int), (ν (q + 1)).toInt = i ∧ (f :: r)[i]? = some f' ∧ w.toInt = fa f' ∧ ck_tk f cur 127 r1 c1 ∧ ck_tk f c1 (fl_ f') r2 c2 ∧ ck_pt c2 g (fl_ f') cur' g' ∧ fs' = f :: r ∧ ν' = va_up ν (q + 1) w) ∧
  (op = 14 → ∃ (L : Nat) (lab : Int) (c1 c2 : List Int) (r1 r2 : Int), (ν (q + 1)).toInt = L ∧ (∀ j, j < q + 2 ∨ q + 2 + L < j → ν' j = ν j) ∧ (∀ k, k ≤ L → ∃ (i : Nat) (f' : ckF), (ν (q + 2 + k)).toInt = i ∧ (f :: r)[i]? = some f' ∧ (ν' (q + 2 + k)).toInt = fa f' ∧ fl_ f' = lab) ∧ ck_tk f cur 127 r1 c1 ∧ ck_tk f c1 lab r2 c2 ∧ cur' = fb f ∧ fs' = fdie f :: r ∧ g' = g) ∧
  (op = 15 → (∃ (r2 : Int) (c2 : List Int), ck_tk f cur (vs 0 (5 * t + 4)).toInt r2 c2) ∧ cur' = fb f ∧ fs' = fdie f :: r ∧ ν' = ν ∧ g' = g) ∧
  (op = 16 → ∃ (i u pa P : Nat) (c1 : List Int), (ν (q + 1)).toInt = i ∧ i < n 2 / 2 ∧ (vs 2 (2 * i + 1)).toInt = u ∧ (vs 0 (5 * u + 1)).toInt = pa ∧ (vs 0 (5 * u + 2)).toInt = P ∧ ck_tkl f cur (ptl cb pa P) c1 ∧ ck_pt c1 g (vs 0 (5 * u + 4)).toInt cur' g' ∧ fs' = f :: r ∧ ν' = ν) ∧
  (op = 17 → ∃ (u pa P : Nat) (c0 c1 : List Int) (r0 : Int), 0 < n 3 / 3 ∧ (ν (q + 1)).toInt = u ∧ u < n 0 / 5 ∧ (vs 0 (5 * u + 1)).toInt = pa ∧ (vs 0 (5 * u + 2)).toInt = P ∧ ck_tk f cur 127 r0 c0 ∧ ck_tkl f c0 (ptl cb pa P) c1 ∧ ck_pt c1 g (vs 0 (5 * u + 4)).toInt cur' g' ∧ fs' = f :: r ∧ ν' = ν) ∧
  (op = 26 → (∃ r1, ck_tk f cur 0 r1 cur') ∧ fs' = f :: r ∧ ν' = ν ∧ g' = g) ∧
  (op = 27 → ∃ (c1 c2 c3 : List Int) (r3 r5 r7 : Int), ck_tk f cur 127 r3 c1 ∧ ck_tk f c1 0 r5 c2 ∧ ck_tk f c2 r5 r7 c3 ∧ ck_pt c3 g (if r5 = 0 then r7 else r5) cur' g' ∧ fs' = f :: r ∧ ν' = ν) ∧
  (32 ≤ op → op ≤ 34 → ∃ (i pa P : Nat), (ν (q + 1)).toInt = i ∧ (vs 0 (5 * t + 1)).toInt = pa ∧ (vs 0 (5 * t + 2)).toInt = P ∧ i < P + lcn ∧ (op = 32 → ck_pt cur g (ck_lt cb lo pa P i) cur' g') ∧ (op = 33 → g' = g ∧ ∃ r1 : Int, ck_tk f cur (ck_lt cb lo pa P i) r1 cur') ∧ (op = 34 → ∃ (r1 : Int) (c1 : List Int), ck_tk f cur (ck_lt cb lo pa P i) r1 c1 ∧ ck_pt c1 g (ck_lt cb lo pa P i) cur' g') ∧ fs' = f :: r ∧ ν' = ν) ∧
  (35 ≤ op → op ≤ 36 → ∃ i : Nat, (ν (q + 1)).toInt = i ∧ i < n 5 / 4 ∧ (op = 35 → ck_pt cur g (vs 5 (4 * i + 1)).toInt cur' g') ∧ (op = 36 → (vs 5 (4 * i + 2)).toInt = 1 ∧ g' = g ∧ ∃ r1 : Int, ck_tk f cur (vs 5 (4 * i + 1)).toInt r1 cur') ∧ fs' = f :: r ∧ ν' = ν) ∧
  (40 ≤ op → op ≤ 64 → 0 < n 4 / 3 ∧ (op = 63 → ck_pt cur g 127 cur' g') ∧ (op = 64 → ∃ (r1 : Int) (c1 : List Int), ck_tk f cur 127 r1 c1 ∧ ck_pt c1 g 127 cur' g') ∧ (op < 54 → ∃ (r1 : Int) (c1 : List Int), ck_tk f cur 127 r1 c1 ∧ ck_pt c1 g (MT (op - 40).toNat) cur' g') ∧ (54 ≤ op → op < 63 → g' = g ∧ ∃ (r1 r2 : Int) (c1 : List Int), ck_tk f cur (MT (op - 40).toNat) r1 c1 ∧ ck_tk f c1 127 r2 cur') ∧ fs' = f :: r ∧ ν' = ν) ∧
  (65 ≤ op → op ≤ 68 → ck_pt cur g (192 - op) cur' g' ∧ fs' = f :: r ∧ ν' = ν) ∧
  (69 ≤ op → ∃ (i : Nat) (c1 : List Int), i < 30 ∧ (∀ j, j < i → SG (4 * j) < op) ∧ op ≤ SG (4 * i) ∧ ck_tkl f cur (List.replicate (SG (4 * i + 1)).toNat (SG (4 * i + 2))) c1 ∧ ck_pt c1 g (SG (4 * i + 3)) cur' g' ∧ fs' = f :: r ∧ ν' = ν)
section CSA
variable {S : Nat → Prop} {h0 h : xb_H} {md rd op ck cd nt im N oa rc rs : Nat} {ca : Nat → Nat} {rw it n : Nat → Nat} {vs : Nat → Nat → Int64} {cb ν iv lo : Nat → Int32} {R0 F : Nat → Nat → Int32} {bc bs : Nat} {Qt : String → xb_H → Nat → Nat → Prop} {cur : List Int} {fs r : List ckF} {f : ckF} {g p lc ty : Int}
theorem cs_checkInstruction {x : Int32} {q t lcn : Nat} {ex : List Int} {Qr : xb_H → Nat → Nat → Prop} (lv : Bool) (hT : ck_T S h0 md rd op ck ca rc rs Qt) (hH : ck_H S h0 h md rd op ck cd nt im N oa ca rw it n vs cb iv R0) (hF : ck_Fr S h0 h F) (hc : rc + 1 ≤ bc) (hb : rs + 6 ≤ bs) (hS : ck_S ck oa nt cd im ca rw R0 cb iv F cur (f :: r) ν lo g q lcn t) (hcl : (cur.length : Int) ≤ N) (hg : g ≤ 100000) (hfl : (f :: r).length ≤ 201)
    (hex : cur = ex ++ fb f) (hty : ∀ y ∈ cur, ck_t y) (hlb : ∀ y ∈ f :: r, fl_ y = 64 ∨ 124 ≤ fl_ y ∧ fl_ y ≤ 127) (hfe : fe f = 64 ∨ 124 ≤ fe f ∧ fe f ≤ 127)
    (hL : xr_L 5 (mp0 N cb) (n 0) (vs 0)) (ht : t < n 0 / 5) (hlc : lcn ≤ 1000) (hlo : ∀ j, j < lcn → 124 ≤ (lo j).toInt ∧ (lo j).toInt ≤ 127)
    (hv : ∀ i : Nat, i < n 5 / 4 → 4 * i + 4 ≤ n 5 ∧ 124 ≤ (vs 5 (4 * i + 1)).toInt ∧ (vs 5 (4 * i + 1)).toInt ≤ 127 ∧ ((vs 5 (4 * i + 2)).toInt = 0 ∨ (vs 5 (4 * i + 2)).toInt = 1))
    (hfn : ∀ i, i < n 2 / 2 → 2 * i + 2 ≤ n 2 ∧ 0 ≤ (vs 2 (2 * i + 1)).toInt ∧ (vs 2 (2 * i + 1)).toInt < (n 0 / 5 : Nat)) (hn0 : n 0 ≤ 2 * N)
    (hx0 : wk_sh x.toInt ≠ 13) (hx1 : 0 ≤ x.toInt) (hx2 : x.toInt ≤ 191) (hq1 : wk_sh x.toInt = 1 ∨ 4 ≤ wk_sh x.toInt → q + 1 < N) (hop : wk_sh x.toInt = 1 → (f :: r).length ≤ 200) (hqL : x.toInt = 14 → ∃ L : Nat, (ν (q + 1)).toInt = L ∧ q + 2 + L < N)
    (hQ : ∀ (F' : Nat → Nat → Int32) (cur' : List Int) (fs' : List ckF) (ν' : Nat → Int32) (g' : Int), ck_st n vs cb lo t lcn lv q x.toInt cur f r ν g cur' fs' ν' g' → ck_Fr S h0 h F' → ck_S ck oa nt cd im ca rw R0 cb iv F' cur' fs' ν' lo g' q lcn t → Qr (xb_W h F') bc bs) : w_Checker_checkInstruction ck x (xb_W h F) bc bs Qr Qt := by
  obtain ⟨⟨s1, s2, s3, s4, s5, s6⟩, so, sf, s7, s8, s9, s10, s11, s12⟩ := id hS
  obtain ⟨-, hM', ⟨r0, r1, r2, r3, ko, lo1, lo2⟩, hD, ⟨S1, S2, S3⟩, kck, kmd, ha, hN, ⟨knt, nnt, kcd, ncd⟩⟩ := id hH
  have hM := hM' F ν s7 s9 s10 s11
  have a3 : xb_r h ck 12 = some (ca 3) ∧ xb_k h (ca 3) = 102 ∧ xb_n h (ca 3) = 201 ∧ S (ca 3) := ha 3 (by omega)
  unfold w_Checker_checkInstruction w_Checker_checkInstruction_L67
  refine ⟨fun h1 => ⟨fun h2 => ⟨fun h3 => ⟨fun h4 => ⟨kck, ?_⟩, fun h4 => ⟨kck, ?_⟩⟩, fun h3 => ⟨kck, ?_⟩⟩, fun h2 => ⟨kck, ?_⟩⟩, fun h1 => ⟨kck, ?_⟩⟩
  · rw [z_lt] at h4
    simp only [Int32.reduceToInt] at h4
    have e91 : q + 1 < N → (F ck 9 + 1).toInt = (q + 1 : Nat) := fun h9 => z_inc s5 (by omega)
    have c91 : q + 1 < N → (F ck 9 + 1).toNatClampNeg = q + 1 := fun h9 => by rw [z_cl, e91 h9]; omega
    have shc : x.toInt = 12 ∨ x.toInt = 13 ∨ x.toInt = 14 ∨ x.toInt = 16 ∨ x.toInt = 17 → 4 ≤ wk_sh x.toInt := by
      intro h9
      rcases h9 with h9 | h9 | h9 | h9 | h9 <;> (rw [h9]; decide)
    have sho : x.toInt = 2 ∨ x.toInt = 3 ∨ x.toInt = 4 → wk_sh x.toInt = 1 := by
      intro h9
      rcases h9 with h9 | h9 | h9 <;> (rw [h9]; decide)
    have bad : (x.toInt = 6 ∨ x.toInt = 7 ∨ x.toInt = 8 ∨ x.toInt = 9 ∨ x.toInt = 10) ∨ (x.toInt = 18 ∨ x.toInt = 19 ∨ x.toInt = 20 ∨ x.toInt = 21 ∨ x.toInt = 22 ∨ x.toInt = 23 ∨ x.toInt = 24 ∨ x.toInt = 25) ∨ x.toInt = 28 ∨ x.toInt = 29 ∨ x.toInt = 30 ∨ x.toInt = 31 → False := by
      intro h9
      apply hx0
      rcases h9 with (h9 | h9 | h9 | h9 | h9) | (h9 | h9 | h9 | h9 | h9 | h9 | h9 | h9) | h9 | h9 | h9 | h9 <;> (rw [h9]; decide)
    have opn : x.toInt = 2 ∨ x.toInt = 3 ∨ x.toInt = 4 → w_Checker_checkControl_L135 (fun (h6 : xb_H) (bc7 bs7 : Nat) => xb_ext (xb_W h F) h6 → Qr h6 bc7 bs7) Qt ck x (xb_W h F) bc bs := by
      intro h9
      unfold w_Checker_checkControl_L135 w_Checker_checkControl_L373
      refine ⟨kck, cs_checkOpening lv hT hH hF hc hb hS hcl hg hfl (hop (sho h9)) (hq1 (.inl (sho h9))) h9 (fun F1 c1 w g1 g2 g3 hF1 hS1 _ _ => hQ F1 c1 _ _ g ⟨fun e => by omega, fun e => by omega, fun _ _ => ⟨w, g1, g2, g3, rfl, rfl, rfl⟩, fun e => by omega, fun e => by omega, fun e => by omega, fun e => by omega, fun e => by omega, fun e => by omega, fun e => by omega, fun e => by omega, fun e => by omega, fun e => by omega, fun e _ => by omega, fun e _ => by omega, fun e _ => by omega, fun e _ => by omega, fun e => by omega⟩ hF1 hS1)⟩
    unfold w_Checker_checkControl w_Checker_checkControl_L373
    refine ⟨fun e => ?_, fun e => ?_, fun e => ?_, fun e => ?_, fun e => ?_, fun e => ?_, fun e => ?_, fun e => ?_, fun e => ?_, fun e => ?_, fun e => ?_, fun e => ?_, fun e => ?_, fun e => ?_, fun e => ?_, fun e => ?_, fun e => ?_, fun e => ?_, fun e => ?_, fun e => ?_, fun e => ?_, fun e => ?_, fun e => ?_, fun e => ?_, fun e => ?_, fun e => ?_, fun e => ?_, fun e => ?_, fun a0 a1 a2 a3' a4 a5 a6 a7 a8 a9 a10 a11 a12 a13 a14 a15 a16 a17 a18 a19 a20 a21 a22 a23 a24 a25 a26 a27 => ?_⟩
    · rw [z_eq] at e
      simp only [Int32.reduceToInt] at e
      exact ⟨kck, cs_die hH hF hS hex hfl (fun F1 hF1 hS1 _ _ => hQ F1 _ _ ν g ⟨fun _ => ⟨rfl, rfl, rfl, rfl⟩, fun e => by omega, fun e _ => by omega, fun e => by omega, fun e => by omega, fun e => by omega, fun e => by omega, fun e => by omega, fun e => by omega, fun e => by omega, fun e => by omega, fun e => by omega, fun e => by omega, fun e _ => by omega, fun e _ => by omega, fun e _ => by omega, fun e _ => by omega, fun e => by omega⟩ hF1 hS1)⟩
    · rw [z_eq] at e
      simp only [Int32.reduceToInt] at e
      exact fun _ => hQ F cur (f :: r) ν g ⟨fun e => by omega, fun _ => ⟨rfl, rfl, rfl, rfl⟩, fun e _ => by omega, fun e => by omega, fun e => by omega, fun e => by omega, fun e => by omega, fun e => by omega, fun e => by omega, fun e => by omega, fun e => by omega, fun e => by omega, fun e => by omega, fun e _ => by omega, fun e _ => by omega, fun e _ => by omega, fun e _ => by omega, fun e => by omega⟩ hF hS
    · rw [z_eq] at e
      simp only [Int32.reduceToInt] at e
      exact opn (by omega)
    · rw [z_eq] at e
      simp only [Int32.reduceToInt] at e
      exact opn (by omega)
    · rw [z_eq] at e
      simp only [Int32.reduceToInt] at e
      exact opn (by omega)
    · rw [z_eq] at e
      simp only [Int32.reduceToInt] at e
      exact ⟨kck, cs_checkElse lv hT hH hF hc hb hS hcl hg hfl hex (fun F1 r3 t1 hF1 hS1 _ _ => hQ F1 _ _ ν g ⟨fun e => by omega, fun e => by omega, fun e _ => by omega, fun _ => ⟨⟨r3, t1⟩, rfl, rfl, rfl, rfl⟩, fun e => by omega, fun e => by omega, fun e => by omega, fun e => by omega, fun e => by omega, fun e => by omega, fun e => by omega, fun e => by omega, fun e => by omega, fun e _ => by omega, fun e _ => by omega, fun e _ => by omega, fun e _ => by omega, fun e => by omega⟩ hF1 hS1)⟩
    · rw [z_eq] at e
      simp only [Int32.reduceToInt] at e
      exact absurd (by omega) bad
    · rw [z_eq] at e
      simp only [Int32.reduceToInt] at e
      exact absurd (by omega) bad
    · rw [z_eq] at e
      simp only [Int32.reduceToInt] at e
      exact absurd (by omega) bad
    · rw [z_eq] at e
      simp only [Int32.reduceToInt] at e
      exact absurd (by omega) bad
    · rw [z_eq] at e
      simp only [Int32.reduceToInt] at e
      exact absurd (by omega) bad
    · rw [z_eq] at e
      simp only [Int32.reduceToInt] at e
      exact ⟨kck, cs_checkEnd hT hH hF hc hb hS hcl hg hfl hex hfe (fun F1 r3 g' cur' t1 t2 t3 hF1 hS1 _ _ => hQ F1 cur' r ν g' ⟨fun e => by omega, fun e => by omega, fun e _ => by omega, fun e => by omega, fun _ => ⟨⟨r3, t1⟩, t2, t3, rfl, rfl⟩, fun e => by omega, fun e => by omega, fun e => by omega, fun e => by omega, fun e => by omega, fun e => by omega, fun e => by omega, fun e => by omega, fun e _ => by omega, fun e _ => by omega, fun e _ => by omega, fun e _ => by omega, fun e => by omega⟩ hF1 hS1)⟩
    · rw [z_eq] at e
      simp only [Int32.reduceToInt] at e
      have hq' := hq1 (.inr (shc (by omega)))
      refine ⟨kck, ca 3, a3.1, cs_checkLabel hT hH hF hc hb hS (e91 hq') hq' hfl (fun u F1 i f' w b1 b2 b3 b4 b5 b6 hF1 hS1 _ => ⟨a3.2.1, by rw [z_in, b3, xW_n, a3.2.2.1]; omega, ?_⟩)⟩
      rw [xW_i, z_cl, b3, Int.toNat_natCast]
      refine cs_take hT hH hF1 hc hb hS1 hcl hfl (fun u2 F2 c2 t2 hF2 hS2 _ => ?_)
      obtain ⟨ex2, he2⟩ := t2.lt hex
      rw [b6] at t2
      exact cs_die hH hF2 hS2 he2 hfl (fun F3 hF3 hS3 _ _ => hQ F3 _ _ _ g ⟨fun e => by omega, fun e => by omega, fun e _ => by omega, fun e => by omega, fun e => by omega, fun _ => ⟨i, f', w, u2.toInt, c2, b1, b2, b5, t2, rfl, rfl, rfl, rfl⟩, fun e => by omega, fun e => by omega, fun e => by omega, fun e => by omega, fun e => by omega, fun e => by omega, fun e => by omega, fun e _ => by omega, fun e _ => by omega, fun e _ => by omega, fun e _ => by omega, fun e => by omega⟩ hF3 hS3)
    · rw [z_eq] at e
      simp only [Int32.reduceToInt] at e
      exact ⟨kck, cs_checkBranchIf hT hH hF hc hb hS hcl hg hfl (hq1 (.inr (shc (by omega)))) hlb (fun F1 i f' w c1 c2 cur' r1 r2 g' b1 b2 b3 t1 t2 t3 hF1 hS1 _ _ => hQ F1 cur' _ _ g' ⟨fun e => by omega, fun e => by omega, fun e _ => by omega, fun e => by omega, fun e => by omega, fun e => by omega, fun _ => ⟨i, f', w, c1, c2, r1, r2, b1, b2, b3, t1, t2, t3, rfl, rfl⟩, fun e => by omega, fun e => by omega, fun e => by omega, fun e => by omega, fun e => by omega, fun e => by omega, fun e _ => by omega, fun e _ => by omega, fun e _ => by omega, fun e _ => by omega, fun e => by omega⟩ hF1 hS1)⟩
    · rw [z_eq] at e
      simp only [Int32.reduceToInt] at e
      obtain ⟨L, hL1, hL2⟩ := hqL e
      exact ⟨kck, cs_checkLabels hT hH hF hc hb hS hcl hg hfl hex hL2 hL1 (fun F1 ν' lab c1 c2 r1 r2 b1 b2 t1 t2 hF1 hS1 _ _ => hQ F1 _ _ ν' g ⟨fun e => by omega, fun e => by omega, fun e _ => by omega, fun e => by omega, fun e => by omega, fun e => by omega, fun e => by omega, fun _ => ⟨L, lab, c1, c2, r1, r2, hL1, b1, b2, t1, t2, rfl, rfl, rfl⟩, fun e => by omega, fun e => by omega, fun e => by omega, fun e => by omega, fun e => by omega, fun e _ => by omega, fun e _ => by omega, fun e _ => by omega, fun e _ => by omega, fun e => by omega⟩ hF1 hS1)⟩
    · rw [z_eq] at e
      simp only [Int32.reduceToInt] at e
      refine ⟨kck, md, r0, kmd, md_resultType hM hL s4 ht (fun r46 e46 _ _ => cs_take hT hH hF hc hb hS hcl hfl (fun u2 F2 c2 t2 hF2 hS2 _ => ?_))⟩
      obtain ⟨ex2, he2⟩ := t2.lt hex
      rw [e46] at t2
      exact cs_die hH hF2 hS2 he2 hfl (fun F3 hF3 hS3 _ _ => hQ F3 _ _ _ g ⟨fun e => by omega, fun e => by omega, fun e _ => by omega, fun e => by omega, fun e => by omega, fun e => by omega, fun e => by omega, fun e => by omega, fun _ => ⟨⟨u2.toInt, c2, t2⟩, rfl, rfl, rfl, rfl⟩, fun e => by omega, fun e => by omega, fun e => by omega, fun e => by omega, fun e _ => by omega, fun e _ => by omega, fun e _ => by omega, fun e _ => by omega, fun e => by omega⟩ hF3 hS3)
    · rw [z_eq] at e
      simp only [Int32.reduceToInt] at e
      have hq' := hq1 (.inr (shc (by omega)))
      have e91' := e91 hq'
      have c91' := c91 hq'
      refine ⟨kck, nt, r2, knt, by rw [z_in, xW_i, e91', xW_n, nnt]; omega, md, r0, kmd, rw 2, hM.row (by omega), hM.krow (by omega), md_lines (c := 2) hM (by omega) rfl (by omega) (fun r61 e61 _ => ?_)⟩
      rw [xW_i, s7, c91']
      refine sp_isThere (fun r63 e63 _ => cs_require hT hH hF hc hb (fun w1 _ => ⟨md, r0, nt, r2, knt, by rw [z_in, xW_i, e91', xW_n, nnt]; omega, kmd, ?_⟩))
      rcases e63 with ⟨w2, -⟩ | ⟨-, w2, w3⟩
      · exact absurd w2 w1
      rw [Z_of32] at w2 w3
      rw [e61] at w3
      obtain ⟨i, hi⟩ : ∃ i : Nat, (ν (q + 1)).toInt = i := ⟨(ν (q + 1)).toInt.toNat, by omega⟩
      obtain ⟨b1, b2, b3⟩ := hfn i (by omega)
      obtain ⟨u, hu⟩ : ∃ u : Nat, (vs 2 (2 * i + 1)).toInt = u := ⟨(vs 2 (2 * i + 1)).toInt.toNat, by omega⟩
      rw [xW_i, s7, c91']
      exact md_typeOf hM hi b1 b2 (by omega) (fun r72 e72 _ => cs_checkCall hT hH hF hc hb hS hcl hg hfl hL (e72.trans hu) (by omega) (fun F1 c1 cur' g' pa P d1 d2 t1 t2 hF1 hS1 _ _ => hQ F1 cur' _ ν g' ⟨fun e => by omega, fun e => by omega, fun e _ => by omega, fun e => by omega, fun e => by omega, fun e => by omega, fun e => by omega, fun e => by omega, fun e => by omega, fun _ => ⟨i, u, pa, P, c1, hi, by omega, hu, d1, d2, t1, t2, rfl, rfl⟩, fun e => by omega, fun e => by omega, fun e => by omega, fun e _ => by omega, fun e _ => by omega, fun e _ => by omega, fun e _ => by omega, fun e => by omega⟩ hF1 hS1))
    · rw [z_eq] at e
      simp only [Int32.reduceToInt] at e
      have hq' := hq1 (.inr (shc (by omega)))
      have e91' := e91 hq'
      have c91' := c91 hq'
      have L296 : ∀ y : Int32, (¬ y = 0 → 0 < n 3 / 3) → w_Checker_checkControl_L296 (fun (h6 : xb_H) (bc7 bs7 : Nat) => xb_ext (xb_W h F) h6 → Qr h6 bc7 bs7) Qt ck y ck (xb_W h F) bc bs := by
        intro y hy
        unfold w_Checker_checkControl_L296 w_Checker_checkControl_L373
        refine ⟨kck, cs_require hT hH hF hc hb (fun y0 _ => ⟨kck, nt, r2, knt, by rw [z_in, xW_i, e91', xW_n, nnt]; omega, md, r0, kmd, rw 0, hM.row (by omega), hM.krow (by omega), md_lines (c := 5) hM (by omega) rfl (by omega) (fun r13 e13 _ => ?_)⟩)⟩
        rw [xW_i, s7, c91']
        refine sp_isThere (fun r15 e15 _ => cs_require hT hH hF hc hb (fun w1 _ => cs_take hT hH hF hc hb hS hcl hfl (fun u0 F1 c0 t0 hF1 hS1 _ => ?_)))
        rcases e15 with ⟨w2, -⟩ | ⟨-, w2, w3⟩
        · exact absurd w2 w1
        rw [Z_of32] at w2 w3
        rw [e13] at w3
        obtain ⟨u, hu⟩ : ∃ u : Nat, (ν (q + 1)).toInt = u := ⟨(ν (q + 1)).toInt.toNat, by omega⟩
        have k9 : (F1 ck 9 + 1).toInt = (q + 1 : Nat) := z_inc hS1.1.2.2.2.2.1 (by omega)
        have ck9 : (F1 ck 9 + 1).toNatClampNeg = q + 1 := by rw [z_cl, k9]; omega
        refine ⟨nt, r2, knt, by rw [z_in, xW_i, k9, xW_n, nnt]; omega, ?_⟩
        rw [xW_i, hS1.2.2.2.1, ck9]
        exact cs_checkCall hT hH hF1 hc hb hS1 (by have := t0.len; omega) hg hfl hL hu (by omega) (fun F2 c1 cur' g' pa P d1 d2 t1 t2 hF2 hS2 _ _ => hQ F2 cur' _ ν g' ⟨fun e => by omega, fun e => by omega, fun e _ => by omega, fun e => by omega, fun e => by omega, fun e => by omega, fun e => by omega, fun e => by omega, fun e => by omega, fun e => by omega, fun _ => ⟨u, pa, P, c0, c1, u0.toInt, hy y0, hu, by omega, d1, d2, t0, t1, t2, rfl, rfl⟩, fun e => by omega, fun e => by omega, fun e _ => by omega, fun e _ => by omega, fun e _ => by omega, fun e _ => by omega, fun e => by omega⟩ hF2 hS2)
      refine ⟨kck, md, r0, kmd, rw 3, hM.row (by omega), hM.krow (by omega), md_lines (c := 3) hM (by omega) rfl (by omega) (fun r82 e82 _ => ⟨fun _ => L296 0 (fun h9 => absurd rfl h9), fun e2 => L296 1 (fun _ => ?_)⟩)⟩
      rw [z_le, e82] at e2
      simp only [Int32.reduceToInt] at e2
      omega
    · rw [z_eq] at e
      simp only [Int32.reduceToInt] at e
      exact absurd (by omega) bad
    · rw [z_eq] at e
      simp only [Int32.reduceToInt] at e
      exact absurd (by omega) bad
    · rw [z_eq] at e
      simp only [Int32.reduceToInt] at e
      exact absurd (by omega) bad
    · rw [z_eq] at e
      simp only [Int32.reduceToInt] at e
      exact absurd (by omega) bad
    · rw [z_eq] at e
      simp only [Int32.reduceToInt] at e
      exact absurd (by omega) bad
    · rw [z_eq] at e
      simp only [Int32.reduceToInt] at e
      exact absurd (by omega) bad
    · rw [z_eq] at e
      simp only [Int32.reduceToInt] at e
      exact absurd (by omega) bad
    · rw [z_eq] at e
      simp only [Int32.reduceToInt] at e
      exact absurd (by omega) bad
    · rw [z_eq] at e
      simp only [Int32.reduceToInt] at e
      exact ⟨kck, cs_take hT hH hF hc hb hS hcl hfl (fun u F1 c1 t1 hF1 hS1 _ _ => hQ F1 c1 _ ν g ⟨fun e => by omega, fun e => by omega, fun e _ => by omega, fun e => by omega, fun e => by omega, fun e => by omega, fun e => by omega, fun e => by omega, fun e => by omega, fun e => by omega, fun e => by omega, fun _ => ⟨⟨u.toInt, t1⟩, rfl, rfl, rfl⟩, fun e => by omega, fun e _ => by omega, fun e _ => by omega, fun e _ => by omega, fun e _ => by omega, fun e => by omega⟩ hF1 hS1)⟩
    · rw [z_eq] at e
      simp only [Int32.reduceToInt] at e
      exact ⟨kck, cs_checkSelect hT hH hF hc hb hS hcl hg hfl hty (fun F1 c1 c2 c3 cur' r3 r5 r7 g' t1 t2 t3 t4 hF1 hS1 _ _ => hQ F1 cur' _ ν g' ⟨fun e => by omega, fun e => by omega, fun e _ => by omega, fun e => by omega, fun e => by omega, fun e => by omega, fun e => by omega, fun e => by omega, fun e => by omega, fun e => by omega, fun e => by omega, fun e => by omega, fun _ => ⟨c1, c2, c3, r3, r5, r7, t1, t2, t3, t4, rfl, rfl⟩, fun e _ => by omega, fun e _ => by omega, fun e _ => by omega, fun e _ => by omega, fun e => by omega⟩ hF1 hS1)⟩
    · rw [z_eq] at a0 a1 a2 a3' a4 a5 a6 a7 a8 a9 a10 a11 a12 a13 a14 a15 a16 a17 a18 a19 a20 a21 a22 a23 a24 a25 a26 a27
      simp only [Int32.reduceToInt] at a0 a1 a2 a3' a4 a5 a6 a7 a8 a9 a10 a11 a12 a13 a14 a15 a16 a17 a18 a19 a20 a21 a22 a23 a24 a25 a26 a27
      exact absurd (by omega) bad
  · rw [z_lt] at h4 h3
    simp only [Int32.reduceToInt] at h4 h3
    have h36 : x.toInt ≤ 36 := by
      by_cases h9 : x.toInt ≤ 36
      · exact h9
      · exfalso
        apply hx0
        have : x.toInt = 37 ∨ x.toInt = 38 ∨ x.toInt = 39 := by omega
        rcases this with h8 | h8 | h8 <;> (rw [h8]; decide)
    have sh4 : 4 ≤ wk_sh x.toInt := by
      have : x.toInt = 32 ∨ x.toInt = 33 ∨ x.toInt = 34 ∨ x.toInt = 35 ∨ x.toInt = 36 := by omega
      rcases this with h8 | h8 | h8 | h8 | h8 <;> (rw [h8]; decide)
    refine cs_checkNamed hT hH hF hc hb hS hcl hg hfl hL ht hlc hlo hv (by omega) h36 (hq1 (.inr sh4)) (fun F1 cur' g' i b1 b2 b3 hF1 hS1 _ => hQ F1 cur' _ ν g' ?_ hF1 hS1)
    refine ⟨fun e => by omega, fun e => by omega, fun e _ => by omega, fun e => by omega, fun e => by omega, fun e => by omega, fun e => by omega, fun e => by omega, fun e => by omega, fun e => by omega, fun e => by omega, fun e => by omega, fun e => by omega, fun e1 e2 => ?_, fun e1 e2 => ?_, fun e _ => by omega, fun e _ => by omega, fun e => by omega⟩
    · obtain ⟨pa, P, d1, d2, d3, d4, d5, d6⟩ := b2 (by omega)
      exact ⟨i, pa, P, b1, d1, d2, d3, d4, d5, d6, rfl, rfl⟩
    · obtain ⟨d1, d2, d3⟩ := b3 (by omega)
      exact ⟨i, b1, d1, d2, d3, rfl, rfl⟩
  · rw [z_lt] at h3 h2
    simp only [Int32.reduceToInt] at h3 h2
    have sh4 : 4 ≤ wk_sh x.toInt := by
      unfold wk_sh
      rw [if_neg (by omega), if_neg (by omega), if_pos (by omega)]
      split <;> omega
    exact cs_checkMemory hT hH hF hc hb hS hcl hg hfl (by omega) (by omega) (fun _ => hq1 (.inr sh4)) (fun F1 cur' g' b1 b2 b3 b4 b5 hF1 hS1 _ => hQ F1 cur' _ ν g' ⟨fun e => by omega, fun e => by omega, fun e _ => by omega, fun e => by omega, fun e => by omega, fun e => by omega, fun e => by omega, fun e => by omega, fun e => by omega, fun e => by omega, fun e => by omega, fun e => by omega, fun e => by omega, fun e _ => by omega, fun e _ => by omega, fun _ _ => ⟨b1, b2, b3, b4, b5, rfl, rfl⟩, fun e _ => by omega, fun e => by omega⟩ hF1 hS1)
  · rw [z_lt] at h2 h1
    simp only [Int32.reduceToInt] at h2 h1
    have ev : (127 - (x - 65)).toInt = 192 - x.toInt := by
      have e1 : (x - 65).toInt = x.toInt - 65 := by rw [z_sub]; simp only [Int32.reduceToInt]; omega
      rw [z_sub, e1]
      simp only [Int32.reduceToInt]
      omega
    refine cs_put hH hF hS hcl (by omega) (by rw [ev]; omega) (fun F1 cur' g' w hF1 hS1 _ => ?_)
    rw [ev] at w
    exact hQ F1 cur' _ ν g' ⟨fun e => by omega, fun e => by omega, fun e _ => by omega, fun e => by omega, fun e => by omega, fun e => by omega, fun e => by omega, fun e => by omega, fun e => by omega, fun e => by omega, fun e => by omega, fun e => by omega, fun e => by omega, fun e _ => by omega, fun e _ => by omega, fun e _ => by omega, fun _ _ => ⟨w, rfl, rfl⟩, fun e => by omega⟩ hF1 hS1
  · rw [z_lt] at h1
    simp only [Int32.reduceToInt] at h1
    exact cs_checkNumeric hT hH hF hc hb hS hcl hg hfl hx2 (fun F1 i c1 cur' g' b1 b2 b3 t1 t2 hF1 hS1 _ => hQ F1 cur' _ ν g' ⟨fun e => by omega, fun e => by omega, fun e _ => by omega, fun e => by omega, fun e => by omega, fun e => by omega, fun e => by omega, fun e => by omega, fun e => by omega, fun e => by omega, fun e => by omega, fun e => by omega, fun e => by omega, fun e _ => by omega, fun e _ => by omega, fun e _ => by omega, fun e _ => by omega, fun _ => ⟨i, c1, b1, b2, b3, t1, t2, rfl, rfl⟩⟩ hF1 hS1)
end CSA
